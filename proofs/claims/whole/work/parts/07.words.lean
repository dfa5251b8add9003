/-! the tables' words (written by wip/whole/gen06.py) -/
def mm_K : List vw_C := [(RX0, TX0, 4), (RX1, TX1, 2), (RX2, TX2, 8), (RX3, TX3, 3), (RX4, TX4, 4), (RX5, TX5, 8), (RX6, TX6, 11), (RX7, TX7, 28)]
def mm_nm (o : Nat) : String := ([RX0, RX1, RX2, RX3, RX4, RX5, RX6, RX7, RL, RJ6, RJ13, RJ7] : List String).getD o ""
def mm_TB : List Cond := lw_tbl.filter goodWord
theorem mm_TB_good {w : Cond} (h : w ∈ mm_TB) : w ∈ lw_tbl ∧ ((w.onTables && w.keeps) = true ∨ ∃ ty, w = .arrayClass ty) := ⟨(List.mem_filter.mp h).1, good_of_word (List.mem_filter.mp h).2⟩
theorem mm_t0 {w : Cond} (i : Nat) (h : (k2_sels lw_privs)[i]? = some w) (g : goodWord w = true) : w ∈ mm_TB := List.mem_filter.mpr ⟨List.mem_append_left _ (List.mem_of_getElem? h), g⟩
theorem mm_t1 {w : Cond} (i : Nat) (h : tables_1_1[i]? = some w) (g : goodWord w = true) : w ∈ mm_TB := List.mem_filter.mpr ⟨List.mem_append_right _ (List.mem_append_left _ (List.mem_of_getElem? h)), g⟩
theorem mm_t2 {w : Cond} (i : Nat) (h : tables_1_2[i]? = some w) (g : goodWord w = true) : w ∈ mm_TB := List.mem_filter.mpr ⟨List.mem_append_right _ (List.mem_append_right _ (List.mem_append_left _ (List.mem_of_getElem? h))), g⟩
theorem mm_t3 {w : Cond} (i : Nat) (h : tables_1_3[i]? = some w) (g : goodWord w = true) : w ∈ mm_TB := List.mem_filter.mpr ⟨List.mem_append_right _ (List.mem_append_right _ (List.mem_append_right _ (List.mem_append_left _ (List.mem_of_getElem? h)))), g⟩
theorem mm_t4 {w : Cond} (i : Nat) (h : tables_1_4[i]? = some w) (g : goodWord w = true) : w ∈ mm_TB := List.mem_filter.mpr ⟨List.mem_append_right _ (List.mem_append_right _ (List.mem_append_right _ (List.mem_append_right _ (List.mem_append_left _ (List.mem_of_getElem? h))))), g⟩
theorem mm_t5 {w : Cond} (i : Nat) (h : tables_1_5[i]? = some w) (g : goodWord w = true) : w ∈ mm_TB := List.mem_filter.mpr ⟨List.mem_append_right _ (List.mem_append_right _ (List.mem_append_right _ (List.mem_append_right _ (List.mem_append_right _ (List.mem_of_getElem? h))))), g⟩
/-- a method that is called -/
def mm_cal (z : Nat) : Prop := Cond.initialized (mm_M z).2.1.cls ∈ mm_TB ∧ Cond.code (mm_M z).2.1 (mm_M z).2.2.1 (mm_M z).2.2.2.1 (mm_M z).2.2.2.2.1 ∈ mm_TB ∧ plainName (mm_M z).2.1.cls = true ∧ ((mm_M z).2.1.cls ≠ "java/lang/invoke/MethodHandle" ∧ (mm_M z).2.1.cls ≠ "java/lang/invoke/VarHandle" ∧ (parseMethodDescriptor (mm_M z).2.1.desc).map (fun d => d.parameters.length) = some (mm_M z).2.2.2.2.2.1) ∧ (mm_M z).2.2.2.1 ≤ 40 ∧ mm_nm (mm_M z).2.2.2.2.2.2 = (mm_M z).2.1.cls
def mm_inst (z : Nat) : Prop := Cond.instanceMethod (mm_M z).2.1 ∈ mm_TB ∧ Cond.selects (mm_M z).2.1.cls (mm_M z).2.1 (mm_M z).2.1 ∈ mm_TB ∧ (mm_K[(mm_M z).2.2.2.2.2.2]?).map (fun q => q.1) = some (mm_M z).2.1.cls
def mm_stat (z : Nat) : Prop := Cond.static (mm_M z).2.1 ∈ mm_TB
set_option maxRecDepth 20000 in
theorem mc_0 : mm_cal 0 := ⟨(mm_t1 (w := .initialized RX0) 5 (by decide +kernel) (by decide +kernel)), (mm_t2 (w := .code yX0_has cX0_has 2 (some .boolean)) 74 (by decide +kernel) (by decide +kernel)), by decide +kernel, ⟨by decide +kernel, by decide +kernel, by decide +kernel⟩, Nat.le_of_ble_eq_true rfl, rfl⟩
set_option maxRecDepth 20000 in
theorem mi_0 : mm_inst 0 := ⟨(mm_t2 (w := .instanceMethod yX0_has) 72 (by decide +kernel) (by decide +kernel)), (mm_t2 (w := .selects RX0 yX0_has yX0_has) 73 (by decide +kernel) (by decide +kernel)), rfl⟩
set_option maxRecDepth 20000 in
theorem mc_1 : mm_cal 1 := ⟨(mm_t1 (w := .initialized RX0) 5 (by decide +kernel) (by decide +kernel)), (mm_t2 (w := .code yX0_reach cX0_reach 2 (some .int)) 78 (by decide +kernel) (by decide +kernel)), by decide +kernel, ⟨by decide +kernel, by decide +kernel, by decide +kernel⟩, Nat.le_of_ble_eq_true rfl, rfl⟩
set_option maxRecDepth 20000 in
theorem mi_1 : mm_inst 1 := ⟨(mm_t2 (w := .instanceMethod yX0_reach) 76 (by decide +kernel) (by decide +kernel)), (mm_t2 (w := .selects RX0 yX0_reach yX0_reach) 77 (by decide +kernel) (by decide +kernel)), rfl⟩
set_option maxRecDepth 20000 in
theorem mc_2 : mm_cal 2 := ⟨(mm_t1 (w := .initialized RX0) 5 (by decide +kernel) (by decide +kernel)), (mm_t2 (w := .code yX0_add cX0_add 4 (some .int)) 66 (by decide +kernel) (by decide +kernel)), by decide +kernel, ⟨by decide +kernel, by decide +kernel, by decide +kernel⟩, Nat.le_of_ble_eq_true rfl, rfl⟩
set_option maxRecDepth 20000 in
theorem mi_2 : mm_inst 2 := ⟨(mm_t2 (w := .instanceMethod yX0_add) 64 (by decide +kernel) (by decide +kernel)), (mm_t2 (w := .selects RX0 yX0_add yX0_add) 65 (by decide +kernel) (by decide +kernel)), rfl⟩
set_option maxRecDepth 20000 in
theorem mc_3 : mm_cal 3 := ⟨(mm_t1 (w := .initialized RX0) 5 (by decide +kernel) (by decide +kernel)), (mm_t2 (w := .code yX0_takeBack cX0_takeBack 2 (some .int)) 89 (by decide +kernel) (by decide +kernel)), by decide +kernel, ⟨by decide +kernel, by decide +kernel, by decide +kernel⟩, Nat.le_of_ble_eq_true rfl, rfl⟩
set_option maxRecDepth 20000 in
theorem mi_3 : mm_inst 3 := ⟨(mm_t2 (w := .instanceMethod yX0_takeBack) 87 (by decide +kernel) (by decide +kernel)), (mm_t2 (w := .selects RX0 yX0_takeBack yX0_takeBack) 88 (by decide +kernel) (by decide +kernel)), rfl⟩
set_option maxRecDepth 20000 in
theorem mc_4 : mm_cal 4 := ⟨(mm_t1 (w := .initialized RX1) 6 (by decide +kernel) (by decide +kernel)), (mm_t2 (w := .code yX1_ofStones cX1_ofStones 7 (some .boolean)) 107 (by decide +kernel) (by decide +kernel)), by decide +kernel, ⟨by decide +kernel, by decide +kernel, by decide +kernel⟩, Nat.le_of_ble_eq_true rfl, rfl⟩
set_option maxRecDepth 20000 in
theorem mi_4 : mm_inst 4 := ⟨(mm_t2 (w := .instanceMethod yX1_ofStones) 105 (by decide +kernel) (by decide +kernel)), (mm_t2 (w := .selects RX1 yX1_ofStones yX1_ofStones) 106 (by decide +kernel) (by decide +kernel)), rfl⟩
set_option maxRecDepth 20000 in
theorem mc_5 : mm_cal 5 := ⟨(mm_t1 (w := .initialized RX1) 6 (by decide +kernel) (by decide +kernel)), (mm_t2 (w := .code yX1_ofTwo cX1_ofTwo 21 (some .boolean)) 111 (by decide +kernel) (by decide +kernel)), by decide +kernel, ⟨by decide +kernel, by decide +kernel, by decide +kernel⟩, Nat.le_of_ble_eq_true rfl, rfl⟩
set_option maxRecDepth 20000 in
theorem mi_5 : mm_inst 5 := ⟨(mm_t2 (w := .instanceMethod yX1_ofTwo) 109 (by decide +kernel) (by decide +kernel)), (mm_t2 (w := .selects RX1 yX1_ofTwo yX1_ofTwo) 110 (by decide +kernel) (by decide +kernel)), rfl⟩
set_option maxRecDepth 20000 in
theorem mc_6 : mm_cal 6 := ⟨(mm_t1 (w := .initialized RX2) 4 (by decide +kernel) (by decide +kernel)), (mm_t2 (w := .code yX2_begin cX2_begin 6 none) 11 (by decide +kernel) (by decide +kernel)), by decide +kernel, ⟨by decide +kernel, by decide +kernel, by decide +kernel⟩, Nat.le_of_ble_eq_true rfl, rfl⟩
set_option maxRecDepth 20000 in
theorem mi_6 : mm_inst 6 := ⟨(mm_t2 (w := .instanceMethod yX2_begin) 9 (by decide +kernel) (by decide +kernel)), (mm_t2 (w := .selects RX2 yX2_begin yX2_begin) 10 (by decide +kernel) (by decide +kernel)), rfl⟩
set_option maxRecDepth 20000 in
theorem mc_7 : mm_cal 7 := ⟨(mm_t1 (w := .initialized RX2) 4 (by decide +kernel) (by decide +kernel)), (mm_t2 (w := .code yX2_turnTo cX2_turnTo 3 none) 15 (by decide +kernel) (by decide +kernel)), by decide +kernel, ⟨by decide +kernel, by decide +kernel, by decide +kernel⟩, Nat.le_of_ble_eq_true rfl, rfl⟩
set_option maxRecDepth 20000 in
theorem mi_7 : mm_inst 7 := ⟨(mm_t2 (w := .instanceMethod yX2_turnTo) 13 (by decide +kernel) (by decide +kernel)), (mm_t2 (w := .selects RX2 yX2_turnTo yX2_turnTo) 14 (by decide +kernel) (by decide +kernel)), rfl⟩
set_option maxRecDepth 20000 in
theorem mc_8 : mm_cal 8 := ⟨(mm_t1 (w := .initialized RX2) 4 (by decide +kernel) (by decide +kernel)), (mm_t2 (w := .code yX2_has cX2_has 2 (some .boolean)) 27 (by decide +kernel) (by decide +kernel)), by decide +kernel, ⟨by decide +kernel, by decide +kernel, by decide +kernel⟩, Nat.le_of_ble_eq_true rfl, rfl⟩
set_option maxRecDepth 20000 in
theorem mi_8 : mm_inst 8 := ⟨(mm_t2 (w := .instanceMethod yX2_has) 25 (by decide +kernel) (by decide +kernel)), (mm_t2 (w := .selects RX2 yX2_has yX2_has) 26 (by decide +kernel) (by decide +kernel)), rfl⟩
set_option maxRecDepth 20000 in
theorem mc_9 : mm_cal 9 := ⟨(mm_t1 (w := .initialized RX2) 4 (by decide +kernel) (by decide +kernel)), (mm_t2 (w := .code yX2_isWater cX2_isWater 2 (some .boolean)) 31 (by decide +kernel) (by decide +kernel)), by decide +kernel, ⟨by decide +kernel, by decide +kernel, by decide +kernel⟩, Nat.le_of_ble_eq_true rfl, rfl⟩
set_option maxRecDepth 20000 in
theorem mi_9 : mm_inst 9 := ⟨(mm_t2 (w := .instanceMethod yX2_isWater) 29 (by decide +kernel) (by decide +kernel)), (mm_t2 (w := .selects RX2 yX2_isWater yX2_isWater) 30 (by decide +kernel) (by decide +kernel)), rfl⟩
set_option maxRecDepth 20000 in
theorem mc_10 : mm_cal 10 := ⟨(mm_t1 (w := .initialized RX2) 4 (by decide +kernel) (by decide +kernel)), (mm_t2 (w := .code yX2_steps cX2_steps 5 (some .int)) 39 (by decide +kernel) (by decide +kernel)), by decide +kernel, ⟨by decide +kernel, by decide +kernel, by decide +kernel⟩, Nat.le_of_ble_eq_true rfl, rfl⟩
set_option maxRecDepth 20000 in
theorem mi_10 : mm_inst 10 := ⟨(mm_t2 (w := .instanceMethod yX2_steps) 37 (by decide +kernel) (by decide +kernel)), (mm_t2 (w := .selects RX2 yX2_steps yX2_steps) 38 (by decide +kernel) (by decide +kernel)), rfl⟩
set_option maxRecDepth 20000 in
theorem mc_11 : mm_cal 11 := ⟨(mm_t1 (w := .initialized RX2) 4 (by decide +kernel) (by decide +kernel)), (mm_t2 (w := .code yX2_lasts cX2_lasts 3 (some .int)) 44 (by decide +kernel) (by decide +kernel)), by decide +kernel, ⟨by decide +kernel, by decide +kernel, by decide +kernel⟩, Nat.le_of_ble_eq_true rfl, rfl⟩
set_option maxRecDepth 20000 in
theorem mi_11 : mm_inst 11 := ⟨(mm_t2 (w := .instanceMethod yX2_lasts) 42 (by decide +kernel) (by decide +kernel)), (mm_t2 (w := .selects RX2 yX2_lasts yX2_lasts) 43 (by decide +kernel) (by decide +kernel)), rfl⟩
set_option maxRecDepth 20000 in
theorem mc_12 : mm_cal 12 := ⟨(mm_t1 (w := .initialized RX2) 4 (by decide +kernel) (by decide +kernel)), (mm_t2 (w := .code yX2_ringAt cX2_ringAt 4 (some .long)) 98 (by decide +kernel) (by decide +kernel)), by decide +kernel, ⟨by decide +kernel, by decide +kernel, by decide +kernel⟩, Nat.le_of_ble_eq_true rfl, rfl⟩
set_option maxRecDepth 20000 in
theorem mi_12 : mm_inst 12 := ⟨(mm_t2 (w := .instanceMethod yX2_ringAt) 96 (by decide +kernel) (by decide +kernel)), (mm_t2 (w := .selects RX2 yX2_ringAt yX2_ringAt) 97 (by decide +kernel) (by decide +kernel)), rfl⟩
set_option maxRecDepth 20000 in
theorem mc_13 : mm_cal 13 := ⟨(mm_t1 (w := .initialized RX2) 4 (by decide +kernel) (by decide +kernel)), (mm_t2 (w := .code yX2_spread cX2_spread 9 none) 48 (by decide +kernel) (by decide +kernel)), by decide +kernel, ⟨by decide +kernel, by decide +kernel, by decide +kernel⟩, Nat.le_of_ble_eq_true rfl, rfl⟩
set_option maxRecDepth 20000 in
theorem mi_13 : mm_inst 13 := ⟨(mm_t2 (w := .instanceMethod yX2_spread) 47 (by decide +kernel) (by decide +kernel)), (mm_t0 (w := .selects RX2 yX2_spread yX2_spread) 4 (by decide +kernel) (by decide +kernel)), rfl⟩
set_option maxRecDepth 20000 in
theorem mc_14 : mm_cal 14 := ⟨(mm_t1 (w := .initialized RX2) 4 (by decide +kernel) (by decide +kernel)), (mm_t2 (w := .code yX2_lesserBeside cX2_lesserBeside 7 (some .long)) 118 (by decide +kernel) (by decide +kernel)), by decide +kernel, ⟨by decide +kernel, by decide +kernel, by decide +kernel⟩, Nat.le_of_ble_eq_true rfl, rfl⟩
set_option maxRecDepth 20000 in
theorem mi_14 : mm_inst 14 := ⟨(mm_t2 (w := .instanceMethod yX2_lesserBeside) 116 (by decide +kernel) (by decide +kernel)), (mm_t2 (w := .selects RX2 yX2_lesserBeside yX2_lesserBeside) 117 (by decide +kernel) (by decide +kernel)), rfl⟩
set_option maxRecDepth 20000 in
theorem mc_15 : mm_cal 15 := ⟨(mm_t1 (w := .initialized RX3) 3 (by decide +kernel) (by decide +kernel)), (mm_t1 (w := .code yX3_read cX3_read 5 (some .int)) 235 (by decide +kernel) (by decide +kernel)), by decide +kernel, ⟨by decide +kernel, by decide +kernel, by decide +kernel⟩, Nat.le_of_ble_eq_true rfl, rfl⟩
set_option maxRecDepth 20000 in
theorem mi_15 : mm_inst 15 := ⟨(mm_t1 (w := .instanceMethod yX3_read) 233 (by decide +kernel) (by decide +kernel)), (mm_t1 (w := .selects RX3 yX3_read yX3_read) 234 (by decide +kernel) (by decide +kernel)), rfl⟩
set_option maxRecDepth 20000 in
theorem mc_16 : mm_cal 16 := ⟨(mm_t1 (w := .initialized RX3) 3 (by decide +kernel) (by decide +kernel)), (mm_t2 (w := .code yX3_end cX3_end 1 (some .int)) 3 (by decide +kernel) (by decide +kernel)), by decide +kernel, ⟨by decide +kernel, by decide +kernel, by decide +kernel⟩, Nat.le_of_ble_eq_true rfl, rfl⟩
set_option maxRecDepth 20000 in
theorem mi_16 : mm_inst 16 := ⟨(mm_t2 (w := .instanceMethod yX3_end) 2 (by decide +kernel) (by decide +kernel)), (mm_t0 (w := .selects RX3 yX3_end yX3_end) 2 (by decide +kernel) (by decide +kernel)), rfl⟩
set_option maxRecDepth 20000 in
theorem mc_17 : mm_cal 17 := ⟨(mm_t1 (w := .initialized RX3) 3 (by decide +kernel) (by decide +kernel)), (mm_t1 (w := .code yX3_goesOn cX3_goesOn 3 (some .boolean)) 239 (by decide +kernel) (by decide +kernel)), by decide +kernel, ⟨by decide +kernel, by decide +kernel, by decide +kernel⟩, Nat.le_of_ble_eq_true rfl, rfl⟩
set_option maxRecDepth 20000 in
theorem mi_17 : mm_inst 17 := ⟨(mm_t1 (w := .instanceMethod yX3_goesOn) 238 (by decide +kernel) (by decide +kernel)), (mm_t0 (w := .selects RX3 yX3_goesOn yX3_goesOn) 1 (by decide +kernel) (by decide +kernel)), rfl⟩
set_option maxRecDepth 20000 in
theorem mc_18 : mm_cal 18 := ⟨(mm_t1 (w := .initialized RX3) 3 (by decide +kernel) (by decide +kernel)), (mm_t2 (w := .code yX3_goesOnInRows cX3_goesOnInRows 4 (some .boolean)) 7 (by decide +kernel) (by decide +kernel)), by decide +kernel, ⟨by decide +kernel, by decide +kernel, by decide +kernel⟩, Nat.le_of_ble_eq_true rfl, rfl⟩
set_option maxRecDepth 20000 in
theorem mi_18 : mm_inst 18 := ⟨(mm_t2 (w := .instanceMethod yX3_goesOnInRows) 6 (by decide +kernel) (by decide +kernel)), (mm_t0 (w := .selects RX3 yX3_goesOnInRows yX3_goesOnInRows) 3 (by decide +kernel) (by decide +kernel)), rfl⟩
set_option maxRecDepth 20000 in
theorem mc_19 : mm_cal 19 := ⟨(mm_t1 (w := .initialized RX4) 2 (by decide +kernel) (by decide +kernel)), (mm_t3 (w := .code yX4_renew cX4_renew 3 none) 59 (by decide +kernel) (by decide +kernel)), by decide +kernel, ⟨by decide +kernel, by decide +kernel, by decide +kernel⟩, Nat.le_of_ble_eq_true rfl, rfl⟩
set_option maxRecDepth 20000 in
theorem mi_19 : mm_inst 19 := ⟨(mm_t3 (w := .instanceMethod yX4_renew) 57 (by decide +kernel) (by decide +kernel)), (mm_t3 (w := .selects RX4 yX4_renew yX4_renew) 58 (by decide +kernel) (by decide +kernel)), rfl⟩
set_option maxRecDepth 20000 in
theorem mc_20 : mm_cal 20 := ⟨(mm_t1 (w := .initialized RX4) 2 (by decide +kernel) (by decide +kernel)), (mm_t1 (w := .code yX4_isOfAnother cX4_isOfAnother 2 (some .boolean)) 223 (by decide +kernel) (by decide +kernel)), by decide +kernel, ⟨by decide +kernel, by decide +kernel, by decide +kernel⟩, Nat.le_of_ble_eq_true rfl, rfl⟩
set_option maxRecDepth 20000 in
theorem mi_20 : mm_inst 20 := ⟨(mm_t1 (w := .instanceMethod yX4_isOfAnother) 221 (by decide +kernel) (by decide +kernel)), (mm_t1 (w := .selects RX4 yX4_isOfAnother yX4_isOfAnother) 222 (by decide +kernel) (by decide +kernel)), rfl⟩
set_option maxRecDepth 20000 in
theorem mc_21 : mm_cal 21 := ⟨(mm_t1 (w := .initialized RX4) 2 (by decide +kernel) (by decide +kernel)), (mm_t1 (w := .code yX4_hasCells cX4_hasCells 3 (some .boolean)) 231 (by decide +kernel) (by decide +kernel)), by decide +kernel, ⟨by decide +kernel, by decide +kernel, by decide +kernel⟩, Nat.le_of_ble_eq_true rfl, rfl⟩
set_option maxRecDepth 20000 in
theorem mi_21 : mm_inst 21 := ⟨(mm_t1 (w := .instanceMethod yX4_hasCells) 229 (by decide +kernel) (by decide +kernel)), (mm_t1 (w := .selects RX4 yX4_hasCells yX4_hasCells) 230 (by decide +kernel) (by decide +kernel)), rfl⟩
set_option maxRecDepth 20000 in
theorem mc_22 : mm_cal 22 := ⟨(mm_t1 (w := .initialized RX4) 2 (by decide +kernel) (by decide +kernel)), (mm_t3 (w := .code yX4_take cX4_take 3 none) 72 (by decide +kernel) (by decide +kernel)), by decide +kernel, ⟨by decide +kernel, by decide +kernel, by decide +kernel⟩, Nat.le_of_ble_eq_true rfl, rfl⟩
set_option maxRecDepth 20000 in
theorem mi_22 : mm_inst 22 := ⟨(mm_t3 (w := .instanceMethod yX4_take) 70 (by decide +kernel) (by decide +kernel)), (mm_t3 (w := .selects RX4 yX4_take yX4_take) 71 (by decide +kernel) (by decide +kernel)), rfl⟩
set_option maxRecDepth 20000 in
theorem mc_23 : mm_cal 23 := ⟨(mm_t1 (w := .initialized RX5) 7 (by decide +kernel) (by decide +kernel)), (mm_t2 (w := .code yX5_forgetPlan cX5_forgetPlan 1 none) 19 (by decide +kernel) (by decide +kernel)), by decide +kernel, ⟨by decide +kernel, by decide +kernel, by decide +kernel⟩, Nat.le_of_ble_eq_true rfl, rfl⟩
set_option maxRecDepth 20000 in
theorem mi_23 : mm_inst 23 := ⟨(mm_t2 (w := .instanceMethod yX5_forgetPlan) 17 (by decide +kernel) (by decide +kernel)), (mm_t2 (w := .selects RX5 yX5_forgetPlan yX5_forgetPlan) 18 (by decide +kernel) (by decide +kernel)), rfl⟩
set_option maxRecDepth 20000 in
theorem mc_24 : mm_cal 24 := ⟨(mm_t1 (w := .initialized RX5) 7 (by decide +kernel) (by decide +kernel)), (mm_t2 (w := .code yX5_learn cX5_learn 6 none) 140 (by decide +kernel) (by decide +kernel)), by decide +kernel, ⟨by decide +kernel, by decide +kernel, by decide +kernel⟩, Nat.le_of_ble_eq_true rfl, rfl⟩
set_option maxRecDepth 20000 in
theorem mi_24 : mm_inst 24 := ⟨(mm_t2 (w := .instanceMethod yX5_learn) 138 (by decide +kernel) (by decide +kernel)), (mm_t2 (w := .selects RX5 yX5_learn yX5_learn) 139 (by decide +kernel) (by decide +kernel)), rfl⟩
set_option maxRecDepth 20000 in
theorem mc_25 : mm_cal 25 := ⟨(mm_t1 (w := .initialized RX5) 7 (by decide +kernel) (by decide +kernel)), (mm_t2 (w := .code yX5_learnPair cX5_learnPair 12 none) 145 (by decide +kernel) (by decide +kernel)), by decide +kernel, ⟨by decide +kernel, by decide +kernel, by decide +kernel⟩, Nat.le_of_ble_eq_true rfl, rfl⟩
set_option maxRecDepth 20000 in
theorem mi_25 : mm_inst 25 := ⟨(mm_t2 (w := .instanceMethod yX5_learnPair) 144 (by decide +kernel) (by decide +kernel)), (mm_t0 (w := .selects RX5 yX5_learnPair yX5_learnPair) 5 (by decide +kernel) (by decide +kernel)), rfl⟩
set_option maxRecDepth 20000 in
theorem mc_26 : mm_cal 26 := ⟨(mm_t1 (w := .initialized RX5) 7 (by decide +kernel) (by decide +kernel)), (mm_t2 (w := .code yX5_leastGap cX5_leastGap 3 (some .int)) 164 (by decide +kernel) (by decide +kernel)), by decide +kernel, ⟨by decide +kernel, by decide +kernel, by decide +kernel⟩, Nat.le_of_ble_eq_true rfl, rfl⟩
set_option maxRecDepth 20000 in
theorem mi_26 : mm_inst 26 := ⟨(mm_t2 (w := .instanceMethod yX5_leastGap) 162 (by decide +kernel) (by decide +kernel)), (mm_t2 (w := .selects RX5 yX5_leastGap yX5_leastGap) 163 (by decide +kernel) (by decide +kernel)), rfl⟩
set_option maxRecDepth 20000 in
theorem mc_27 : mm_cal 27 := ⟨(mm_t1 (w := .initialized RX5) 7 (by decide +kernel) (by decide +kernel)), (mm_t3 (w := .code yX5_throwInTurn cX5_throwInTurn 5 (some .int)) 5 (by decide +kernel) (by decide +kernel)), by decide +kernel, ⟨by decide +kernel, by decide +kernel, by decide +kernel⟩, Nat.le_of_ble_eq_true rfl, rfl⟩
set_option maxRecDepth 20000 in
theorem mi_27 : mm_inst 27 := ⟨(mm_t3 (w := .instanceMethod yX5_throwInTurn) 3 (by decide +kernel) (by decide +kernel)), (mm_t3 (w := .selects RX5 yX5_throwInTurn yX5_throwInTurn) 4 (by decide +kernel) (by decide +kernel)), rfl⟩
set_option maxRecDepth 20000 in
theorem mc_28 : mm_cal 28 := ⟨(mm_t1 (w := .initialized RX5) 7 (by decide +kernel) (by decide +kernel)), (mm_t3 (w := .code yX5_meetsOneAhead cX5_meetsOneAhead 8 (some .boolean)) 9 (by decide +kernel) (by decide +kernel)), by decide +kernel, ⟨by decide +kernel, by decide +kernel, by decide +kernel⟩, Nat.le_of_ble_eq_true rfl, rfl⟩
set_option maxRecDepth 20000 in
theorem mi_28 : mm_inst 28 := ⟨(mm_t3 (w := .instanceMethod yX5_meetsOneAhead) 8 (by decide +kernel) (by decide +kernel)), (mm_t0 (w := .selects RX5 yX5_meetsOneAhead yX5_meetsOneAhead) 16 (by decide +kernel) (by decide +kernel)), rfl⟩
set_option maxRecDepth 20000 in
theorem mc_29 : mm_cal 29 := ⟨(mm_t1 (w := .initialized RX5) 7 (by decide +kernel) (by decide +kernel)), (mm_t2 (w := .code yX5_makePlan cX5_makePlan 5 none) 200 (by decide +kernel) (by decide +kernel)), by decide +kernel, ⟨by decide +kernel, by decide +kernel, by decide +kernel⟩, Nat.le_of_ble_eq_true rfl, rfl⟩
set_option maxRecDepth 20000 in
theorem mi_29 : mm_inst 29 := ⟨(mm_t2 (w := .instanceMethod yX5_makePlan) 198 (by decide +kernel) (by decide +kernel)), (mm_t2 (w := .selects RX5 yX5_makePlan yX5_makePlan) 199 (by decide +kernel) (by decide +kernel)), rfl⟩
set_option maxRecDepth 20000 in
theorem mc_30 : mm_cal 30 := ⟨(mm_t1 (w := .initialized RX5) 7 (by decide +kernel) (by decide +kernel)), (mm_t2 (w := .code yX5_firstThatWillDo cX5_firstThatWillDo 7 (some .int)) 237 (by decide +kernel) (by decide +kernel)), by decide +kernel, ⟨by decide +kernel, by decide +kernel, by decide +kernel⟩, Nat.le_of_ble_eq_true rfl, rfl⟩
set_option maxRecDepth 20000 in
theorem mi_30 : mm_inst 30 := ⟨(mm_t2 (w := .instanceMethod yX5_firstThatWillDo) 236 (by decide +kernel) (by decide +kernel)), (mm_t0 (w := .selects RX5 yX5_firstThatWillDo yX5_firstThatWillDo) 15 (by decide +kernel) (by decide +kernel)), rfl⟩
set_option maxRecDepth 20000 in
theorem mc_31 : mm_cal 31 := ⟨(mm_t1 (w := .initialized RX5) 7 (by decide +kernel) (by decide +kernel)), (mm_t2 (w := .code yX5_widestPair cX5_widestPair 5 (some .int)) 204 (by decide +kernel) (by decide +kernel)), by decide +kernel, ⟨by decide +kernel, by decide +kernel, by decide +kernel⟩, Nat.le_of_ble_eq_true rfl, rfl⟩
set_option maxRecDepth 20000 in
theorem mi_31 : mm_inst 31 := ⟨(mm_t2 (w := .instanceMethod yX5_widestPair) 203 (by decide +kernel) (by decide +kernel)), (mm_t0 (w := .selects RX5 yX5_widestPair yX5_widestPair) 9 (by decide +kernel) (by decide +kernel)), rfl⟩
set_option maxRecDepth 20000 in
theorem mc_32 : mm_cal 32 := ⟨(mm_t1 (w := .initialized RX5) 7 (by decide +kernel) (by decide +kernel)), (mm_t3 (w := .code yX5_mostBy cX5_mostBy 5 (some .int)) 20 (by decide +kernel) (by decide +kernel)), by decide +kernel, ⟨by decide +kernel, by decide +kernel, by decide +kernel⟩, Nat.le_of_ble_eq_true rfl, rfl⟩
set_option maxRecDepth 20000 in
theorem mi_32 : mm_inst 32 := ⟨(mm_t3 (w := .instanceMethod yX5_mostBy) 18 (by decide +kernel) (by decide +kernel)), (mm_t3 (w := .selects RX5 yX5_mostBy yX5_mostBy) 19 (by decide +kernel) (by decide +kernel)), rfl⟩
set_option maxRecDepth 20000 in
theorem mc_33 : mm_cal 33 := ⟨(mm_t1 (w := .initialized RX5) 7 (by decide +kernel) (by decide +kernel)), (mm_t2 (w := .code yX5_canThrow cX5_canThrow 4 (some .boolean)) 213 (by decide +kernel) (by decide +kernel)), by decide +kernel, ⟨by decide +kernel, by decide +kernel, by decide +kernel⟩, Nat.le_of_ble_eq_true rfl, rfl⟩
set_option maxRecDepth 20000 in
theorem mi_33 : mm_inst 33 := ⟨(mm_t2 (w := .instanceMethod yX5_canThrow) 212 (by decide +kernel) (by decide +kernel)), (mm_t0 (w := .selects RX5 yX5_canThrow yX5_canThrow) 10 (by decide +kernel) (by decide +kernel)), rfl⟩
set_option maxRecDepth 20000 in
theorem mc_34 : mm_cal 34 := ⟨(mm_t1 (w := .initialized RX5) 7 (by decide +kernel) (by decide +kernel)), (mm_t2 (w := .code yX5_weightIn cX5_weightIn 5 (some .int)) 220 (by decide +kernel) (by decide +kernel)), by decide +kernel, ⟨by decide +kernel, by decide +kernel, by decide +kernel⟩, Nat.le_of_ble_eq_true rfl, rfl⟩
set_option maxRecDepth 20000 in
theorem mi_34 : mm_inst 34 := ⟨(mm_t2 (w := .instanceMethod yX5_weightIn) 219 (by decide +kernel) (by decide +kernel)), (mm_t0 (w := .selects RX5 yX5_weightIn yX5_weightIn) 11 (by decide +kernel) (by decide +kernel)), rfl⟩
set_option maxRecDepth 20000 in
theorem mc_35 : mm_cal 35 := ⟨(mm_t1 (w := .initialized RX5) 7 (by decide +kernel) (by decide +kernel)), (mm_t2 (w := .code yX5_canPlace cX5_canPlace 9 (some .boolean)) 225 (by decide +kernel) (by decide +kernel)), by decide +kernel, ⟨by decide +kernel, by decide +kernel, by decide +kernel⟩, Nat.le_of_ble_eq_true rfl, rfl⟩
set_option maxRecDepth 20000 in
theorem mi_35 : mm_inst 35 := ⟨(mm_t2 (w := .instanceMethod yX5_canPlace) 224 (by decide +kernel) (by decide +kernel)), (mm_t0 (w := .selects RX5 yX5_canPlace yX5_canPlace) 12 (by decide +kernel) (by decide +kernel)), rfl⟩
set_option maxRecDepth 20000 in
theorem mc_36 : mm_cal 36 := ⟨(mm_t1 (w := .initialized RX5) 7 (by decide +kernel) (by decide +kernel)), (mm_t2 (w := .code yX5_tightest cX5_tightest 7 (some .int)) 229 (by decide +kernel) (by decide +kernel)), by decide +kernel, ⟨by decide +kernel, by decide +kernel, by decide +kernel⟩, Nat.le_of_ble_eq_true rfl, rfl⟩
set_option maxRecDepth 20000 in
theorem mi_36 : mm_inst 36 := ⟨(mm_t2 (w := .instanceMethod yX5_tightest) 228 (by decide +kernel) (by decide +kernel)), (mm_t0 (w := .selects RX5 yX5_tightest yX5_tightest) 13 (by decide +kernel) (by decide +kernel)), rfl⟩
set_option maxRecDepth 20000 in
theorem mc_37 : mm_cal 37 := ⟨(mm_t1 (w := .initialized RX5) 7 (by decide +kernel) (by decide +kernel)), (mm_t2 (w := .code yX5_leavesRoom cX5_leavesRoom 11 (some .boolean)) 233 (by decide +kernel) (by decide +kernel)), by decide +kernel, ⟨by decide +kernel, by decide +kernel, by decide +kernel⟩, Nat.le_of_ble_eq_true rfl, rfl⟩
set_option maxRecDepth 20000 in
theorem mi_37 : mm_inst 37 := ⟨(mm_t2 (w := .instanceMethod yX5_leavesRoom) 232 (by decide +kernel) (by decide +kernel)), (mm_t0 (w := .selects RX5 yX5_leavesRoom yX5_leavesRoom) 14 (by decide +kernel) (by decide +kernel)), rfl⟩
set_option maxRecDepth 20000 in
theorem mc_38 : mm_cal 38 := ⟨(mm_t1 (w := .initialized RX6) 1 (by decide +kernel) (by decide +kernel)), (mm_t1 (w := .code yX6_pond cX6_pond 7 (some .int)) 213 (by decide +kernel) (by decide +kernel)), by decide +kernel, ⟨by decide +kernel, by decide +kernel, by decide +kernel⟩, Nat.le_of_ble_eq_true rfl, rfl⟩
set_option maxRecDepth 20000 in
theorem mi_38 : mm_inst 38 := ⟨(mm_t1 (w := .instanceMethod yX6_pond) 211 (by decide +kernel) (by decide +kernel)), (mm_t1 (w := .selects RX6 yX6_pond yX6_pond) 212 (by decide +kernel) (by decide +kernel)), rfl⟩
set_option maxRecDepth 20000 in
theorem mc_39 : mm_cal 39 := ⟨(mm_t1 (w := .initialized RX6) 1 (by decide +kernel) (by decide +kernel)), (mm_t2 (w := .code yX6_water cX6_water 2 (some .int)) 23 (by decide +kernel) (by decide +kernel)), by decide +kernel, ⟨by decide +kernel, by decide +kernel, by decide +kernel⟩, Nat.le_of_ble_eq_true rfl, rfl⟩
set_option maxRecDepth 20000 in
theorem mi_39 : mm_inst 39 := ⟨(mm_t2 (w := .instanceMethod yX6_water) 21 (by decide +kernel) (by decide +kernel)), (mm_t2 (w := .selects RX6 yX6_water yX6_water) 22 (by decide +kernel) (by decide +kernel)), rfl⟩
set_option maxRecDepth 20000 in
theorem mc_40 : mm_cal 40 := ⟨(mm_t1 (w := .initialized RX6) 1 (by decide +kernel) (by decide +kernel)), (mm_t2 (w := .code yX6_far cX6_far 3 (some .int)) 35 (by decide +kernel) (by decide +kernel)), by decide +kernel, ⟨by decide +kernel, by decide +kernel, by decide +kernel⟩, Nat.le_of_ble_eq_true rfl, rfl⟩
set_option maxRecDepth 20000 in
theorem mi_40 : mm_inst 40 := ⟨(mm_t2 (w := .instanceMethod yX6_far) 33 (by decide +kernel) (by decide +kernel)), (mm_t2 (w := .selects RX6 yX6_far yX6_far) 34 (by decide +kernel) (by decide +kernel)), rfl⟩
set_option maxRecDepth 20000 in
theorem mc_41 : mm_cal 41 := ⟨(mm_t1 (w := .initialized RX6) 1 (by decide +kernel) (by decide +kernel)), (mm_t2 (w := .code yX6_stone cX6_stone 4 (some .int)) 56 (by decide +kernel) (by decide +kernel)), by decide +kernel, ⟨by decide +kernel, by decide +kernel, by decide +kernel⟩, Nat.le_of_ble_eq_true rfl, rfl⟩
set_option maxRecDepth 20000 in
theorem mi_41 : mm_inst 41 := ⟨(mm_t2 (w := .instanceMethod yX6_stone) 54 (by decide +kernel) (by decide +kernel)), (mm_t2 (w := .selects RX6 yX6_stone yX6_stone) 55 (by decide +kernel) (by decide +kernel)), rfl⟩
set_option maxRecDepth 20000 in
theorem mc_42 : mm_cal 42 := ⟨(mm_t1 (w := .initialized RX6) 1 (by decide +kernel) (by decide +kernel)), (mm_t2 (w := .code yX6_ofStone cX6_ofStone 3 (some .int)) 70 (by decide +kernel) (by decide +kernel)), by decide +kernel, ⟨by decide +kernel, by decide +kernel, by decide +kernel⟩, Nat.le_of_ble_eq_true rfl, rfl⟩
set_option maxRecDepth 20000 in
theorem mi_42 : mm_inst 42 := ⟨(mm_t2 (w := .instanceMethod yX6_ofStone) 68 (by decide +kernel) (by decide +kernel)), (mm_t2 (w := .selects RX6 yX6_ofStone yX6_ofStone) 69 (by decide +kernel) (by decide +kernel)), rfl⟩
set_option maxRecDepth 20000 in
theorem mc_43 : mm_cal 43 := ⟨(mm_t1 (w := .initialized RX6) 1 (by decide +kernel) (by decide +kernel)), (mm_t2 (w := .code yX6_back cX6_back 2 (some .int)) 85 (by decide +kernel) (by decide +kernel)), by decide +kernel, ⟨by decide +kernel, by decide +kernel, by decide +kernel⟩, Nat.le_of_ble_eq_true rfl, rfl⟩
set_option maxRecDepth 20000 in
theorem mi_43 : mm_inst 43 := ⟨(mm_t2 (w := .instanceMethod yX6_back) 83 (by decide +kernel) (by decide +kernel)), (mm_t2 (w := .selects RX6 yX6_back yX6_back) 84 (by decide +kernel) (by decide +kernel)), rfl⟩
set_option maxRecDepth 20000 in
theorem mc_44 : mm_cal 44 := ⟨(mm_t1 (w := .initialized RX6) 1 (by decide +kernel) (by decide +kernel)), (mm_t2 (w := .code yX6_ring cX6_ring 4 (some .long)) 93 (by decide +kernel) (by decide +kernel)), by decide +kernel, ⟨by decide +kernel, by decide +kernel, by decide +kernel⟩, Nat.le_of_ble_eq_true rfl, rfl⟩
set_option maxRecDepth 20000 in
theorem mi_44 : mm_inst 44 := ⟨(mm_t2 (w := .instanceMethod yX6_ring) 91 (by decide +kernel) (by decide +kernel)), (mm_t2 (w := .selects RX6 yX6_ring yX6_ring) 92 (by decide +kernel) (by decide +kernel)), rfl⟩
set_option maxRecDepth 20000 in
theorem mc_45 : mm_cal 45 := ⟨(mm_t1 (w := .initialized RX6) 1 (by decide +kernel) (by decide +kernel)), (mm_t2 (w := .code yX6_meet cX6_meet 4 (some .int)) 103 (by decide +kernel) (by decide +kernel)), by decide +kernel, ⟨by decide +kernel, by decide +kernel, by decide +kernel⟩, Nat.le_of_ble_eq_true rfl, rfl⟩
set_option maxRecDepth 20000 in
theorem mi_45 : mm_inst 45 := ⟨(mm_t2 (w := .instanceMethod yX6_meet) 101 (by decide +kernel) (by decide +kernel)), (mm_t2 (w := .selects RX6 yX6_meet yX6_meet) 102 (by decide +kernel) (by decide +kernel)), rfl⟩
set_option maxRecDepth 20000 in
theorem mc_46 : mm_cal 46 := ⟨(mm_t1 (w := .initialized RX6) 1 (by decide +kernel) (by decide +kernel)), (mm_t2 (w := .code yX6_first cX6_first 7 (some .int)) 132 (by decide +kernel) (by decide +kernel)), by decide +kernel, ⟨by decide +kernel, by decide +kernel, by decide +kernel⟩, Nat.le_of_ble_eq_true rfl, rfl⟩
set_option maxRecDepth 20000 in
theorem mi_46 : mm_inst 46 := ⟨(mm_t2 (w := .instanceMethod yX6_first) 130 (by decide +kernel) (by decide +kernel)), (mm_t2 (w := .selects RX6 yX6_first yX6_first) 131 (by decide +kernel) (by decide +kernel)), rfl⟩
set_option maxRecDepth 20000 in
theorem mc_47 : mm_cal 47 := ⟨(mm_t1 (w := .initialized RX6) 1 (by decide +kernel) (by decide +kernel)), (mm_t2 (w := .code yX6_wish cX6_wish 4 (some .int)) 136 (by decide +kernel) (by decide +kernel)), by decide +kernel, ⟨by decide +kernel, by decide +kernel, by decide +kernel⟩, Nat.le_of_ble_eq_true rfl, rfl⟩
set_option maxRecDepth 20000 in
theorem mi_47 : mm_inst 47 := ⟨(mm_t2 (w := .instanceMethod yX6_wish) 134 (by decide +kernel) (by decide +kernel)), (mm_t2 (w := .selects RX6 yX6_wish yX6_wish) 135 (by decide +kernel) (by decide +kernel)), rfl⟩
set_option maxRecDepth 20000 in
theorem mc_48 : mm_cal 48 := ⟨(mm_t1 (w := .initialized RX6) 1 (by decide +kernel) (by decide +kernel)), (mm_t2 (w := .code yX6_ofWish cX6_ofWish 3 (some .int)) 152 (by decide +kernel) (by decide +kernel)), by decide +kernel, ⟨by decide +kernel, by decide +kernel, by decide +kernel⟩, Nat.le_of_ble_eq_true rfl, rfl⟩
set_option maxRecDepth 20000 in
theorem mi_48 : mm_inst 48 := ⟨(mm_t2 (w := .instanceMethod yX6_ofWish) 150 (by decide +kernel) (by decide +kernel)), (mm_t2 (w := .selects RX6 yX6_ofWish yX6_ofWish) 151 (by decide +kernel) (by decide +kernel)), rfl⟩
set_option maxRecDepth 20000 in
theorem mc_49 : mm_cal 49 := ⟨(mm_t1 (w := .initialized RX6) 1 (by decide +kernel) (by decide +kernel)), (mm_t2 (w := .code yX6_drop cX6_drop 3 (some .int)) 156 (by decide +kernel) (by decide +kernel)), by decide +kernel, ⟨by decide +kernel, by decide +kernel, by decide +kernel⟩, Nat.le_of_ble_eq_true rfl, rfl⟩
set_option maxRecDepth 20000 in
theorem mi_49 : mm_inst 49 := ⟨(mm_t2 (w := .instanceMethod yX6_drop) 154 (by decide +kernel) (by decide +kernel)), (mm_t2 (w := .selects RX6 yX6_drop yX6_drop) 155 (by decide +kernel) (by decide +kernel)), rfl⟩
set_option maxRecDepth 20000 in
theorem mc_50 : mm_cal 50 := ⟨(mm_t1 (w := .initialized RX6) 1 (by decide +kernel) (by decide +kernel)), (mm_t2 (w := .code yX6_apart cX6_apart 3 (some .int)) 160 (by decide +kernel) (by decide +kernel)), by decide +kernel, ⟨by decide +kernel, by decide +kernel, by decide +kernel⟩, Nat.le_of_ble_eq_true rfl, rfl⟩
set_option maxRecDepth 20000 in
theorem mi_50 : mm_inst 50 := ⟨(mm_t2 (w := .instanceMethod yX6_apart) 158 (by decide +kernel) (by decide +kernel)), (mm_t2 (w := .selects RX6 yX6_apart yX6_apart) 159 (by decide +kernel) (by decide +kernel)), rfl⟩
set_option maxRecDepth 20000 in
theorem mc_51 : mm_cal 51 := ⟨(mm_t1 (w := .initialized RX6) 1 (by decide +kernel) (by decide +kernel)), (mm_t2 (w := .code yX6_atOnce cX6_atOnce 1 (some .int)) 170 (by decide +kernel) (by decide +kernel)), by decide +kernel, ⟨by decide +kernel, by decide +kernel, by decide +kernel⟩, Nat.le_of_ble_eq_true rfl, rfl⟩
set_option maxRecDepth 20000 in
theorem mi_51 : mm_inst 51 := ⟨(mm_t2 (w := .instanceMethod yX6_atOnce) 168 (by decide +kernel) (by decide +kernel)), (mm_t2 (w := .selects RX6 yX6_atOnce yX6_atOnce) 169 (by decide +kernel) (by decide +kernel)), rfl⟩
set_option maxRecDepth 20000 in
theorem mc_52 : mm_cal 52 := ⟨(mm_t1 (w := .initialized RX6) 1 (by decide +kernel) (by decide +kernel)), (mm_t2 (w := .code yX6_soonest cX6_soonest 2 (some .int)) 196 (by decide +kernel) (by decide +kernel)), by decide +kernel, ⟨by decide +kernel, by decide +kernel, by decide +kernel⟩, Nat.le_of_ble_eq_true rfl, rfl⟩
set_option maxRecDepth 20000 in
theorem mi_52 : mm_inst 52 := ⟨(mm_t2 (w := .instanceMethod yX6_soonest) 194 (by decide +kernel) (by decide +kernel)), (mm_t2 (w := .selects RX6 yX6_soonest yX6_soonest) 195 (by decide +kernel) (by decide +kernel)), rfl⟩
set_option maxRecDepth 20000 in
theorem mc_53 : mm_cal 53 := ⟨(mm_t1 (w := .initialized RX6) 1 (by decide +kernel) (by decide +kernel)), (mm_t3 (w := .code yX6_alone cX6_alone 3 (some .int)) 1 (by decide +kernel) (by decide +kernel)), by decide +kernel, ⟨by decide +kernel, by decide +kernel, by decide +kernel⟩, Nat.le_of_ble_eq_true rfl, rfl⟩
set_option maxRecDepth 20000 in
theorem mi_53 : mm_inst 53 := ⟨(mm_t2 (w := .instanceMethod yX6_alone) 239 (by decide +kernel) (by decide +kernel)), (mm_t3 (w := .selects RX6 yX6_alone yX6_alone) 0 (by decide +kernel) (by decide +kernel)), rfl⟩
set_option maxRecDepth 20000 in
theorem mc_54 : mm_cal 54 := ⟨(mm_t1 (w := .initialized RX6) 1 (by decide +kernel) (by decide +kernel)), (mm_t3 (w := .code yX6_sunset cX6_sunset 2 (some .int)) 16 (by decide +kernel) (by decide +kernel)), by decide +kernel, ⟨by decide +kernel, by decide +kernel, by decide +kernel⟩, Nat.le_of_ble_eq_true rfl, rfl⟩
set_option maxRecDepth 20000 in
theorem mi_54 : mm_inst 54 := ⟨(mm_t3 (w := .instanceMethod yX6_sunset) 14 (by decide +kernel) (by decide +kernel)), (mm_t3 (w := .selects RX6 yX6_sunset yX6_sunset) 15 (by decide +kernel) (by decide +kernel)), rfl⟩
set_option maxRecDepth 20000 in
theorem mc_55 : mm_cal 55 := ⟨(mm_t1 (w := .initialized RX6) 1 (by decide +kernel) (by decide +kernel)), (mm_t3 (w := .code yX6_reed cX6_reed 3 (some .int)) 25 (by decide +kernel) (by decide +kernel)), by decide +kernel, ⟨by decide +kernel, by decide +kernel, by decide +kernel⟩, Nat.le_of_ble_eq_true rfl, rfl⟩
set_option maxRecDepth 20000 in
theorem mi_55 : mm_inst 55 := ⟨(mm_t3 (w := .instanceMethod yX6_reed) 23 (by decide +kernel) (by decide +kernel)), (mm_t3 (w := .selects RX6 yX6_reed yX6_reed) 24 (by decide +kernel) (by decide +kernel)), rfl⟩
set_option maxRecDepth 20000 in
theorem mc_56 : mm_cal 56 := ⟨(mm_t1 (w := .initialized RX6) 1 (by decide +kernel) (by decide +kernel)), (mm_t3 (w := .code yX6_pull cX6_pull 2 (some .int)) 29 (by decide +kernel) (by decide +kernel)), by decide +kernel, ⟨by decide +kernel, by decide +kernel, by decide +kernel⟩, Nat.le_of_ble_eq_true rfl, rfl⟩
set_option maxRecDepth 20000 in
theorem mi_56 : mm_inst 56 := ⟨(mm_t3 (w := .instanceMethod yX6_pull) 27 (by decide +kernel) (by decide +kernel)), (mm_t3 (w := .selects RX6 yX6_pull yX6_pull) 28 (by decide +kernel) (by decide +kernel)), rfl⟩
set_option maxRecDepth 20000 in
theorem mc_57 : mm_cal 57 := ⟨(mm_t1 (w := .initialized RX6) 1 (by decide +kernel) (by decide +kernel)), (mm_t3 (w := .code yX6_fits cX6_fits 6 (some .int)) 33 (by decide +kernel) (by decide +kernel)), by decide +kernel, ⟨by decide +kernel, by decide +kernel, by decide +kernel⟩, Nat.le_of_ble_eq_true rfl, rfl⟩
set_option maxRecDepth 20000 in
theorem mi_57 : mm_inst 57 := ⟨(mm_t3 (w := .instanceMethod yX6_fits) 31 (by decide +kernel) (by decide +kernel)), (mm_t3 (w := .selects RX6 yX6_fits yX6_fits) 32 (by decide +kernel) (by decide +kernel)), rfl⟩
set_option maxRecDepth 20000 in
theorem mc_58 : mm_cal 58 := ⟨(mm_t1 (w := .initialized RX6) 1 (by decide +kernel) (by decide +kernel)), (mm_t3 (w := .code yX6_dig cX6_dig 6 (some .int)) 46 (by decide +kernel) (by decide +kernel)), by decide +kernel, ⟨by decide +kernel, by decide +kernel, by decide +kernel⟩, Nat.le_of_ble_eq_true rfl, rfl⟩
set_option maxRecDepth 20000 in
theorem mi_58 : mm_inst 58 := ⟨(mm_t3 (w := .instanceMethod yX6_dig) 44 (by decide +kernel) (by decide +kernel)), (mm_t3 (w := .selects RX6 yX6_dig yX6_dig) 45 (by decide +kernel) (by decide +kernel)), rfl⟩
set_option maxRecDepth 20000 in
theorem mc_59 : mm_cal 59 := ⟨(mm_t1 (w := .initialized RX6) 1 (by decide +kernel) (by decide +kernel)), (mm_t3 (w := .code yX6_sheet cX6_sheet 4 (some .int)) 55 (by decide +kernel) (by decide +kernel)), by decide +kernel, ⟨by decide +kernel, by decide +kernel, by decide +kernel⟩, Nat.le_of_ble_eq_true rfl, rfl⟩
set_option maxRecDepth 20000 in
theorem mi_59 : mm_inst 59 := ⟨(mm_t3 (w := .instanceMethod yX6_sheet) 53 (by decide +kernel) (by decide +kernel)), (mm_t3 (w := .selects RX6 yX6_sheet yX6_sheet) 54 (by decide +kernel) (by decide +kernel)), rfl⟩
set_option maxRecDepth 20000 in
theorem mc_60 : mm_cal 60 := ⟨(mm_t1 (w := .initialized RX6) 1 (by decide +kernel) (by decide +kernel)), (mm_t3 (w := .code yX6_lose cX6_lose 3 (some .int)) 64 (by decide +kernel) (by decide +kernel)), by decide +kernel, ⟨by decide +kernel, by decide +kernel, by decide +kernel⟩, Nat.le_of_ble_eq_true rfl, rfl⟩
set_option maxRecDepth 20000 in
theorem mi_60 : mm_inst 60 := ⟨(mm_t3 (w := .instanceMethod yX6_lose) 62 (by decide +kernel) (by decide +kernel)), (mm_t3 (w := .selects RX6 yX6_lose yX6_lose) 63 (by decide +kernel) (by decide +kernel)), rfl⟩
set_option maxRecDepth 20000 in
theorem mc_61 : mm_cal 61 := ⟨(mm_t1 (w := .initialized RX6) 1 (by decide +kernel) (by decide +kernel)), (mm_t3 (w := .code yX6_put cX6_put 4 (some .int)) 68 (by decide +kernel) (by decide +kernel)), by decide +kernel, ⟨by decide +kernel, by decide +kernel, by decide +kernel⟩, Nat.le_of_ble_eq_true rfl, rfl⟩
set_option maxRecDepth 20000 in
theorem mi_61 : mm_inst 61 := ⟨(mm_t3 (w := .instanceMethod yX6_put) 66 (by decide +kernel) (by decide +kernel)), (mm_t3 (w := .selects RX6 yX6_put yX6_put) 67 (by decide +kernel) (by decide +kernel)), rfl⟩
set_option maxRecDepth 20000 in
theorem mc_62 : mm_cal 62 := ⟨(mm_t1 (w := .initialized RX6) 1 (by decide +kernel) (by decide +kernel)), (mm_t3 (w := .code yX6_cell cX6_cell 5 (some .long)) 76 (by decide +kernel) (by decide +kernel)), by decide +kernel, ⟨by decide +kernel, by decide +kernel, by decide +kernel⟩, Nat.le_of_ble_eq_true rfl, rfl⟩
set_option maxRecDepth 20000 in
theorem mi_62 : mm_inst 62 := ⟨(mm_t3 (w := .instanceMethod yX6_cell) 74 (by decide +kernel) (by decide +kernel)), (mm_t3 (w := .selects RX6 yX6_cell yX6_cell) 75 (by decide +kernel) (by decide +kernel)), rfl⟩
set_option maxRecDepth 20000 in
theorem mc_63 : mm_cal 63 := ⟨(mm_t1 (w := .initialized RX6) 1 (by decide +kernel) (by decide +kernel)), (mm_t3 (w := .code yX6_copy cX6_copy 8 (some .int)) 80 (by decide +kernel) (by decide +kernel)), by decide +kernel, ⟨by decide +kernel, by decide +kernel, by decide +kernel⟩, Nat.le_of_ble_eq_true rfl, rfl⟩
set_option maxRecDepth 20000 in
theorem mi_63 : mm_inst 63 := ⟨(mm_t3 (w := .instanceMethod yX6_copy) 78 (by decide +kernel) (by decide +kernel)), (mm_t3 (w := .selects RX6 yX6_copy yX6_copy) 79 (by decide +kernel) (by decide +kernel)), rfl⟩
set_option maxRecDepth 20000 in
theorem mc_64 : mm_cal 64 := ⟨(mm_t1 (w := .initialized RX6) 1 (by decide +kernel) (by decide +kernel)), (mm_t3 (w := .code yX6_tell cX6_tell 3 (some .int)) 87 (by decide +kernel) (by decide +kernel)), by decide +kernel, ⟨by decide +kernel, by decide +kernel, by decide +kernel⟩, Nat.le_of_ble_eq_true rfl, rfl⟩
set_option maxRecDepth 20000 in
theorem mi_64 : mm_inst 64 := ⟨(mm_t3 (w := .instanceMethod yX6_tell) 85 (by decide +kernel) (by decide +kernel)), (mm_t3 (w := .selects RX6 yX6_tell yX6_tell) 86 (by decide +kernel) (by decide +kernel)), rfl⟩
set_option maxRecDepth 20000 in
theorem mc_65 : mm_cal 65 := ⟨(mm_t1 (w := .initialized RX6) 1 (by decide +kernel) (by decide +kernel)), (mm_t3 (w := .code yX6_make cX6_make 2 (some .int)) 107 (by decide +kernel) (by decide +kernel)), by decide +kernel, ⟨by decide +kernel, by decide +kernel, by decide +kernel⟩, Nat.le_of_ble_eq_true rfl, rfl⟩
set_option maxRecDepth 20000 in
theorem mi_65 : mm_inst 65 := ⟨(mm_t3 (w := .instanceMethod yX6_make) 105 (by decide +kernel) (by decide +kernel)), (mm_t3 (w := .selects RX6 yX6_make yX6_make) 106 (by decide +kernel) (by decide +kernel)), rfl⟩
set_option maxRecDepth 20000 in
theorem mc_66 : mm_cal 66 := ⟨(mm_t1 (w := .initialized RX6) 1 (by decide +kernel) (by decide +kernel)), (mm_t3 (w := .code yX6_as cX6_as 3 (some .int)) 119 (by decide +kernel) (by decide +kernel)), by decide +kernel, ⟨by decide +kernel, by decide +kernel, by decide +kernel⟩, Nat.le_of_ble_eq_true rfl, rfl⟩
set_option maxRecDepth 20000 in
theorem mi_66 : mm_inst 66 := ⟨(mm_t3 (w := .instanceMethod yX6_as) 117 (by decide +kernel) (by decide +kernel)), (mm_t3 (w := .selects RX6 yX6_as yX6_as) 118 (by decide +kernel) (by decide +kernel)), rfl⟩
set_option maxRecDepth 20000 in
theorem mc_67 : mm_cal 67 := ⟨(mm_t1 (w := .initialized RX6) 1 (by decide +kernel) (by decide +kernel)), (mm_t3 (w := .code yX6_trace cX6_trace 1 (some .int)) 123 (by decide +kernel) (by decide +kernel)), by decide +kernel, ⟨by decide +kernel, by decide +kernel, by decide +kernel⟩, Nat.le_of_ble_eq_true rfl, rfl⟩
set_option maxRecDepth 20000 in
theorem mi_67 : mm_inst 67 := ⟨(mm_t3 (w := .instanceMethod yX6_trace) 121 (by decide +kernel) (by decide +kernel)), (mm_t3 (w := .selects RX6 yX6_trace yX6_trace) 122 (by decide +kernel) (by decide +kernel)), rfl⟩
set_option maxRecDepth 20000 in
theorem mc_68 : mm_cal 68 := ⟨(mm_t1 (w := .initialized RX6) 1 (by decide +kernel) (by decide +kernel)), (mm_t3 (w := .code yX6_fault cX6_fault 1 (some .int)) 127 (by decide +kernel) (by decide +kernel)), by decide +kernel, ⟨by decide +kernel, by decide +kernel, by decide +kernel⟩, Nat.le_of_ble_eq_true rfl, rfl⟩
set_option maxRecDepth 20000 in
theorem mi_68 : mm_inst 68 := ⟨(mm_t3 (w := .instanceMethod yX6_fault) 125 (by decide +kernel) (by decide +kernel)), (mm_t3 (w := .selects RX6 yX6_fault yX6_fault) 126 (by decide +kernel) (by decide +kernel)), rfl⟩
set_option maxRecDepth 20000 in
theorem mc_69 : mm_cal 69 := ⟨(mm_t1 (w := .initialized RX6) 1 (by decide +kernel) (by decide +kernel)), (mm_t3 (w := .code yX6_many cX6_many 2 (some .int)) 131 (by decide +kernel) (by decide +kernel)), by decide +kernel, ⟨by decide +kernel, by decide +kernel, by decide +kernel⟩, Nat.le_of_ble_eq_true rfl, rfl⟩
set_option maxRecDepth 20000 in
theorem mi_69 : mm_inst 69 := ⟨(mm_t3 (w := .instanceMethod yX6_many) 129 (by decide +kernel) (by decide +kernel)), (mm_t3 (w := .selects RX6 yX6_many yX6_many) 130 (by decide +kernel) (by decide +kernel)), rfl⟩
set_option maxRecDepth 20000 in
theorem mc_70 : mm_cal 70 := ⟨(mm_t1 (w := .initialized RX6) 1 (by decide +kernel) (by decide +kernel)), (mm_t1 (w := .code yX6_faulty cX6_faulty 2 (some .int)) 227 (by decide +kernel) (by decide +kernel)), by decide +kernel, ⟨by decide +kernel, by decide +kernel, by decide +kernel⟩, Nat.le_of_ble_eq_true rfl, rfl⟩
set_option maxRecDepth 20000 in
theorem mi_70 : mm_inst 70 := ⟨(mm_t1 (w := .instanceMethod yX6_faulty) 226 (by decide +kernel) (by decide +kernel)), (mm_t0 (w := .selects RX6 yX6_faulty yX6_faulty) 0 (by decide +kernel) (by decide +kernel)), rfl⟩
set_option maxRecDepth 20000 in
theorem mc_71 : mm_cal 71 := ⟨(mm_t1 (w := .initialized RX6) 1 (by decide +kernel) (by decide +kernel)), (mm_t1 (w := .code yX6_isSheet cX6_isSheet 1 (some .boolean)) 216 (by decide +kernel) (by decide +kernel)), by decide +kernel, ⟨by decide +kernel, by decide +kernel, by decide +kernel⟩, Nat.le_of_ble_eq_true rfl, rfl⟩
theorem mst_71 : mm_stat 71 := (mm_t1 (w := .static yX6_isSheet) 215 (by decide +kernel) (by decide +kernel))
set_option maxRecDepth 20000 in
theorem mc_72 : mm_cal 72 := ⟨(mm_t1 (w := .initialized RX6) 1 (by decide +kernel) (by decide +kernel)), (mm_t1 (w := .code yX6_isSort cX6_isSort 1 (some .boolean)) 219 (by decide +kernel) (by decide +kernel)), by decide +kernel, ⟨by decide +kernel, by decide +kernel, by decide +kernel⟩, Nat.le_of_ble_eq_true rfl, rfl⟩
theorem mst_72 : mm_stat 72 := (mm_t1 (w := .static yX6_isSort) 218 (by decide +kernel) (by decide +kernel))
set_option maxRecDepth 20000 in
theorem mc_73 : mm_cal 73 := ⟨(mm_t1 (w := .initialized RX6) 1 (by decide +kernel) (by decide +kernel)), (mm_t2 (w := .code yX6_isKind cX6_isKind 1 (some .boolean)) 59 (by decide +kernel) (by decide +kernel)), by decide +kernel, ⟨by decide +kernel, by decide +kernel, by decide +kernel⟩, Nat.le_of_ble_eq_true rfl, rfl⟩
theorem mst_73 : mm_stat 73 := (mm_t2 (w := .static yX6_isKind) 58 (by decide +kernel) (by decide +kernel))
set_option maxRecDepth 20000 in
theorem mc_74 : mm_cal 74 := ⟨(mm_t1 (w := .initialized RX6) 1 (by decide +kernel) (by decide +kernel)), (mm_t2 (w := .code yX6_isMinute cX6_isMinute 1 (some .boolean)) 62 (by decide +kernel) (by decide +kernel)), by decide +kernel, ⟨by decide +kernel, by decide +kernel, by decide +kernel⟩, Nat.le_of_ble_eq_true rfl, rfl⟩
theorem mst_74 : mm_stat 74 := (mm_t2 (w := .static yX6_isMinute) 61 (by decide +kernel) (by decide +kernel))
set_option maxRecDepth 20000 in
theorem mc_75 : mm_cal 75 := ⟨(mm_t1 (w := .initialized RX6) 1 (by decide +kernel) (by decide +kernel)), (mm_t2 (w := .code yX6_lowestBit cX6_lowestBit 2 (some .int)) 121 (by decide +kernel) (by decide +kernel)), by decide +kernel, ⟨by decide +kernel, by decide +kernel, by decide +kernel⟩, Nat.le_of_ble_eq_true rfl, rfl⟩
theorem mst_75 : mm_stat 75 := (mm_t2 (w := .static yX6_lowestBit) 120 (by decide +kernel) (by decide +kernel))
set_option maxRecDepth 20000 in
theorem mc_76 : mm_cal 76 := ⟨(mm_t1 (w := .initialized RX6) 1 (by decide +kernel) (by decide +kernel)), (mm_t3 (w := .code yX6_fitsInCell cX6_fitsInCell 6 (some .int)) 37 (by decide +kernel) (by decide +kernel)), by decide +kernel, ⟨by decide +kernel, by decide +kernel, by decide +kernel⟩, Nat.le_of_ble_eq_true rfl, rfl⟩
set_option maxRecDepth 20000 in
theorem mi_76 : mm_inst 76 := ⟨(mm_t3 (w := .instanceMethod yX6_fitsInCell) 36 (by decide +kernel) (by decide +kernel)), (mm_t0 (w := .selects RX6 yX6_fitsInCell yX6_fitsInCell) 17 (by decide +kernel) (by decide +kernel)), rfl⟩
set_option maxRecDepth 20000 in
theorem mc_77 : mm_cal 77 := ⟨(mm_t1 (w := .initialized RX6) 1 (by decide +kernel) (by decide +kernel)), (mm_t3 (w := .code yX6_firstFit cX6_firstFit 2 (some .int)) 41 (by decide +kernel) (by decide +kernel)), by decide +kernel, ⟨by decide +kernel, by decide +kernel, by decide +kernel⟩, Nat.le_of_ble_eq_true rfl, rfl⟩
set_option maxRecDepth 20000 in
theorem mi_77 : mm_inst 77 := ⟨(mm_t3 (w := .instanceMethod yX6_firstFit) 40 (by decide +kernel) (by decide +kernel)), (mm_t0 (w := .selects RX6 yX6_firstFit yX6_firstFit) 18 (by decide +kernel) (by decide +kernel)), rfl⟩
set_option maxRecDepth 20000 in
theorem mc_78 : mm_cal 78 := ⟨(mm_t1 (w := .initialized RX6) 1 (by decide +kernel) (by decide +kernel)), (mm_t3 (w := .code yX6_mostTogetherIfDug cX6_mostTogetherIfDug 5 (some .int)) 50 (by decide +kernel) (by decide +kernel)), by decide +kernel, ⟨by decide +kernel, by decide +kernel, by decide +kernel⟩, Nat.le_of_ble_eq_true rfl, rfl⟩
set_option maxRecDepth 20000 in
theorem mi_78 : mm_inst 78 := ⟨(mm_t3 (w := .instanceMethod yX6_mostTogetherIfDug) 49 (by decide +kernel) (by decide +kernel)), (mm_t0 (w := .selects RX6 yX6_mostTogetherIfDug yX6_mostTogetherIfDug) 19 (by decide +kernel) (by decide +kernel)), rfl⟩
set_option maxRecDepth 20000 in
theorem mc_79 : mm_cal 79 := ⟨(mm_t1 (w := .initialized RX6) 1 (by decide +kernel) (by decide +kernel)), (mm_t2 (w := .code yX6_mostTogether cX6_mostTogether 3 (some .int)) 174 (by decide +kernel) (by decide +kernel)), by decide +kernel, ⟨by decide +kernel, by decide +kernel, by decide +kernel⟩, Nat.le_of_ble_eq_true rfl, rfl⟩
set_option maxRecDepth 20000 in
theorem mi_79 : mm_inst 79 := ⟨(mm_t2 (w := .instanceMethod yX6_mostTogether) 173 (by decide +kernel) (by decide +kernel)), (mm_t0 (w := .selects RX6 yX6_mostTogether yX6_mostTogether) 6 (by decide +kernel) (by decide +kernel)), rfl⟩
set_option maxRecDepth 20000 in
theorem mc_80 : mm_cal 80 := ⟨(mm_t1 (w := .initialized RX6) 1 (by decide +kernel) (by decide +kernel)), (mm_t2 (w := .code yX6_findClashes cX6_findClashes 3 none) 178 (by decide +kernel) (by decide +kernel)), by decide +kernel, ⟨by decide +kernel, by decide +kernel, by decide +kernel⟩, Nat.le_of_ble_eq_true rfl, rfl⟩
set_option maxRecDepth 20000 in
theorem mi_80 : mm_inst 80 := ⟨(mm_t2 (w := .instanceMethod yX6_findClashes) 177 (by decide +kernel) (by decide +kernel)), (mm_t0 (w := .selects RX6 yX6_findClashes yX6_findClashes) 7 (by decide +kernel) (by decide +kernel)), rfl⟩
set_option maxRecDepth 20000 in
theorem mc_81 : mm_cal 81 := ⟨(mm_t1 (w := .initialized RX6) 1 (by decide +kernel) (by decide +kernel)), (mm_t2 (w := .code yX6_isPeaceful cX6_isPeaceful 3 (some .boolean)) 192 (by decide +kernel) (by decide +kernel)), by decide +kernel, ⟨by decide +kernel, by decide +kernel, by decide +kernel⟩, Nat.le_of_ble_eq_true rfl, rfl⟩
set_option maxRecDepth 20000 in
theorem mi_81 : mm_inst 81 := ⟨(mm_t2 (w := .instanceMethod yX6_isPeaceful) 191 (by decide +kernel) (by decide +kernel)), (mm_t0 (w := .selects RX6 yX6_isPeaceful yX6_isPeaceful) 8 (by decide +kernel) (by decide +kernel)), rfl⟩
set_option maxRecDepth 20000 in
theorem mc_82 : mm_cal 82 := ⟨(mm_t1 (w := .initialized RX6) 1 (by decide +kernel) (by decide +kernel)), (mm_t3 (w := .code yX6_leave cX6_leave 2 none) 95 (by decide +kernel) (by decide +kernel)), by decide +kernel, ⟨by decide +kernel, by decide +kernel, by decide +kernel⟩, Nat.le_of_ble_eq_true rfl, rfl⟩
set_option maxRecDepth 20000 in
theorem mi_82 : mm_inst 82 := ⟨(mm_t3 (w := .instanceMethod yX6_leave) 94 (by decide +kernel) (by decide +kernel)), (mm_t0 (w := .selects RX6 yX6_leave yX6_leave) 21 (by decide +kernel) (by decide +kernel)), rfl⟩
set_option maxRecDepth 20000 in
theorem mc_83 : mm_cal 83 := ⟨(mm_t1 (w := .initialized RX6) 1 (by decide +kernel) (by decide +kernel)), (mm_t3 (w := .code yX6_stoneTells cX6_stoneTells 2 (some .int)) 103 (by decide +kernel) (by decide +kernel)), by decide +kernel, ⟨by decide +kernel, by decide +kernel, by decide +kernel⟩, Nat.le_of_ble_eq_true rfl, rfl⟩
set_option maxRecDepth 20000 in
theorem mi_83 : mm_inst 83 := ⟨(mm_t3 (w := .instanceMethod yX6_stoneTells) 102 (by decide +kernel) (by decide +kernel)), (mm_t0 (w := .selects RX6 yX6_stoneTells yX6_stoneTells) 23 (by decide +kernel) (by decide +kernel)), rfl⟩
set_option maxRecDepth 20000 in
theorem mc_84 : mm_cal 84 := ⟨(mm_t1 (w := .initialized RX6) 1 (by decide +kernel) (by decide +kernel)), (mm_t3 (w := .code yX6_pebbleTells cX6_pebbleTells 2 (some .int)) 99 (by decide +kernel) (by decide +kernel)), by decide +kernel, ⟨by decide +kernel, by decide +kernel, by decide +kernel⟩, Nat.le_of_ble_eq_true rfl, rfl⟩
set_option maxRecDepth 20000 in
theorem mi_84 : mm_inst 84 := ⟨(mm_t3 (w := .instanceMethod yX6_pebbleTells) 98 (by decide +kernel) (by decide +kernel)), (mm_t0 (w := .selects RX6 yX6_pebbleTells yX6_pebbleTells) 22 (by decide +kernel) (by decide +kernel)), rfl⟩
set_option maxRecDepth 20000 in
theorem mc_85 : mm_cal 85 := ⟨(mm_t1 (w := .initialized RX6) 1 (by decide +kernel) (by decide +kernel)), (mm_t3 (w := .code yX6_grainTells cX6_grainTells 3 (some .int)) 91 (by decide +kernel) (by decide +kernel)), by decide +kernel, ⟨by decide +kernel, by decide +kernel, by decide +kernel⟩, Nat.le_of_ble_eq_true rfl, rfl⟩
set_option maxRecDepth 20000 in
theorem mi_85 : mm_inst 85 := ⟨(mm_t3 (w := .instanceMethod yX6_grainTells) 90 (by decide +kernel) (by decide +kernel)), (mm_t0 (w := .selects RX6 yX6_grainTells yX6_grainTells) 20 (by decide +kernel) (by decide +kernel)), rfl⟩
set_option maxRecDepth 20000 in
theorem mc_86 : mm_cal 86 := ⟨(mm_t1 (w := .initialized RX6) 1 (by decide +kernel) (by decide +kernel)), (mm_t3 (w := .code yX6_lentMakes cX6_lentMakes 2 (some .int)) 115 (by decide +kernel) (by decide +kernel)), by decide +kernel, ⟨by decide +kernel, by decide +kernel, by decide +kernel⟩, Nat.le_of_ble_eq_true rfl, rfl⟩
set_option maxRecDepth 20000 in
theorem mi_86 : mm_inst 86 := ⟨(mm_t3 (w := .instanceMethod yX6_lentMakes) 114 (by decide +kernel) (by decide +kernel)), (mm_t0 (w := .selects RX6 yX6_lentMakes yX6_lentMakes) 25 (by decide +kernel) (by decide +kernel)), rfl⟩
set_option maxRecDepth 20000 in
theorem mc_87 : mm_cal 87 := ⟨(mm_t1 (w := .initialized RX6) 1 (by decide +kernel) (by decide +kernel)), (mm_t3 (w := .code yX6_grainMakes cX6_grainMakes 1 (some .int)) 111 (by decide +kernel) (by decide +kernel)), by decide +kernel, ⟨by decide +kernel, by decide +kernel, by decide +kernel⟩, Nat.le_of_ble_eq_true rfl, rfl⟩
set_option maxRecDepth 20000 in
theorem mi_87 : mm_inst 87 := ⟨(mm_t3 (w := .instanceMethod yX6_grainMakes) 110 (by decide +kernel) (by decide +kernel)), (mm_t0 (w := .selects RX6 yX6_grainMakes yX6_grainMakes) 24 (by decide +kernel) (by decide +kernel)), rfl⟩
set_option maxRecDepth 20000 in
theorem mc_88 : mm_cal 88 := ⟨(mm_t1 (w := .initialized RX7) 8 (by decide +kernel) (by decide +kernel)), (mm_t4 (w := .code yX7_fails cX7_fails 2 (some .int)) 4 (by decide +kernel) (by decide +kernel)), by decide +kernel, ⟨by decide +kernel, by decide +kernel, by decide +kernel⟩, Nat.le_of_ble_eq_true rfl, rfl⟩
set_option maxRecDepth 20000 in
theorem mi_88 : mm_inst 88 := ⟨(mm_t4 (w := .instanceMethod yX7_fails) 3 (by decide +kernel) (by decide +kernel)), (mm_t0 (w := .selects RX7 yX7_fails yX7_fails) 27 (by decide +kernel) (by decide +kernel)), rfl⟩
set_option maxRecDepth 20000 in
theorem mc_89 : mm_cal 89 := ⟨(mm_t1 (w := .initialized RX7) 8 (by decide +kernel) (by decide +kernel)), (mm_t4 (w := .code yX7_lost cX7_lost 2 (some .long)) 211 (by decide +kernel) (by decide +kernel)), by decide +kernel, ⟨by decide +kernel, by decide +kernel, by decide +kernel⟩, Nat.le_of_ble_eq_true rfl, rfl⟩
set_option maxRecDepth 20000 in
theorem mi_89 : mm_inst 89 := ⟨(mm_t4 (w := .instanceMethod yX7_lost) 210 (by decide +kernel) (by decide +kernel)), (mm_t0 (w := .selects RX7 yX7_lost yX7_lost) 53 (by decide +kernel) (by decide +kernel)), rfl⟩
set_option maxRecDepth 20000 in
theorem mc_90 : mm_cal 90 := ⟨(mm_t1 (w := .initialized RX7) 8 (by decide +kernel) (by decide +kernel)), (mm_t3 (w := .code yX7_within cX7_within 3 (some .boolean)) 233 (by decide +kernel) (by decide +kernel)), by decide +kernel, ⟨by decide +kernel, by decide +kernel, by decide +kernel⟩, Nat.le_of_ble_eq_true rfl, rfl⟩
theorem mst_90 : mm_stat 90 := (mm_t3 (w := .static yX7_within) 232 (by decide +kernel) (by decide +kernel))
set_option maxRecDepth 20000 in
theorem mc_91 : mm_cal 91 := ⟨(mm_t1 (w := .initialized RX7) 8 (by decide +kernel) (by decide +kernel)), (mm_t3 (w := .code yX7_isSheet cX7_isSheet 1 (some .boolean)) 230 (by decide +kernel) (by decide +kernel)), by decide +kernel, ⟨by decide +kernel, by decide +kernel, by decide +kernel⟩, Nat.le_of_ble_eq_true rfl, rfl⟩
theorem mst_91 : mm_stat 91 := (mm_t3 (w := .static yX7_isSheet) 229 (by decide +kernel) (by decide +kernel))
set_option maxRecDepth 20000 in
theorem mc_92 : mm_cal 92 := ⟨(mm_t1 (w := .initialized RX7) 8 (by decide +kernel) (by decide +kernel)), (mm_t3 (w := .code yX7_isSort cX7_isSort 1 (some .boolean)) 236 (by decide +kernel) (by decide +kernel)), by decide +kernel, ⟨by decide +kernel, by decide +kernel, by decide +kernel⟩, Nat.le_of_ble_eq_true rfl, rfl⟩
theorem mst_92 : mm_stat 92 := (mm_t3 (w := .static yX7_isSort) 235 (by decide +kernel) (by decide +kernel))
set_option maxRecDepth 20000 in
theorem mc_93 : mm_cal 93 := ⟨(mm_t1 (w := .initialized RX7) 8 (by decide +kernel) (by decide +kernel)), (mm_t4 (w := .code yX7_against cX7_against 5 (some .int)) 0 (by decide +kernel) (by decide +kernel)), by decide +kernel, ⟨by decide +kernel, by decide +kernel, by decide +kernel⟩, Nat.le_of_ble_eq_true rfl, rfl⟩
set_option maxRecDepth 20000 in
theorem mi_93 : mm_inst 93 := ⟨(mm_t3 (w := .instanceMethod yX7_against) 239 (by decide +kernel) (by decide +kernel)), (mm_t0 (w := .selects RX7 yX7_against yX7_against) 26 (by decide +kernel) (by decide +kernel)), rfl⟩
set_option maxRecDepth 20000 in
theorem mc_94 : mm_cal 94 := ⟨(mm_t1 (w := .initialized RX7) 8 (by decide +kernel) (by decide +kernel)), (mm_t4 (w := .code yX7_all cX7_all 1 (some .int)) 16 (by decide +kernel) (by decide +kernel)), by decide +kernel, ⟨by decide +kernel, by decide +kernel, by decide +kernel⟩, Nat.le_of_ble_eq_true rfl, rfl⟩
set_option maxRecDepth 20000 in
theorem mi_94 : mm_inst 94 := ⟨(mm_t4 (w := .instanceMethod yX7_all) 15 (by decide +kernel) (by decide +kernel)), (mm_t0 (w := .selects RX7 yX7_all yX7_all) 30 (by decide +kernel) (by decide +kernel)), rfl⟩
set_option maxRecDepth 20000 in
theorem mc_95 : mm_cal 95 := ⟨(mm_t1 (w := .initialized RX7) 8 (by decide +kernel) (by decide +kernel)), (mm_t4 (w := .code yX7_isCell cX7_isCell 2 (some .boolean)) 40 (by decide +kernel) (by decide +kernel)), by decide +kernel, ⟨by decide +kernel, by decide +kernel, by decide +kernel⟩, Nat.le_of_ble_eq_true rfl, rfl⟩
set_option maxRecDepth 20000 in
theorem mi_95 : mm_inst 95 := ⟨(mm_t4 (w := .instanceMethod yX7_isCell) 39 (by decide +kernel) (by decide +kernel)), (mm_t0 (w := .selects RX7 yX7_isCell yX7_isCell) 35 (by decide +kernel) (by decide +kernel)), rfl⟩
set_option maxRecDepth 20000 in
theorem mc_96 : mm_cal 96 := ⟨(mm_t1 (w := .initialized RX7) 8 (by decide +kernel) (by decide +kernel)), (mm_t4 (w := .code yX7_digit cX7_digit 3 (some .int)) 12 (by decide +kernel) (by decide +kernel)), by decide +kernel, ⟨by decide +kernel, by decide +kernel, by decide +kernel⟩, Nat.le_of_ble_eq_true rfl, rfl⟩
set_option maxRecDepth 20000 in
theorem mi_96 : mm_inst 96 := ⟨(mm_t4 (w := .instanceMethod yX7_digit) 11 (by decide +kernel) (by decide +kernel)), (mm_t0 (w := .selects RX7 yX7_digit yX7_digit) 29 (by decide +kernel) (by decide +kernel)), rfl⟩
set_option maxRecDepth 20000 in
theorem mc_97 : mm_cal 97 := ⟨(mm_t1 (w := .initialized RX7) 8 (by decide +kernel) (by decide +kernel)), (mm_t3 (w := .code yX7_pond cX7_pond 8 (some .int)) 227 (by decide +kernel) (by decide +kernel)), by decide +kernel, ⟨by decide +kernel, by decide +kernel, by decide +kernel⟩, Nat.le_of_ble_eq_true rfl, rfl⟩
set_option maxRecDepth 20000 in
theorem mi_97 : mm_inst 97 := ⟨(mm_t3 (w := .instanceMethod yX7_pond) 225 (by decide +kernel) (by decide +kernel)), (mm_t3 (w := .selects RX7 yX7_pond yX7_pond) 226 (by decide +kernel) (by decide +kernel)), rfl⟩
set_option maxRecDepth 20000 in
theorem mc_98 : mm_cal 98 := ⟨(mm_t1 (w := .initialized RX7) 8 (by decide +kernel) (by decide +kernel)), (mm_t4 (w := .code yX7_readPond cX7_readPond 4 (some .boolean)) 8 (by decide +kernel) (by decide +kernel)), by decide +kernel, ⟨by decide +kernel, by decide +kernel, by decide +kernel⟩, Nat.le_of_ble_eq_true rfl, rfl⟩
set_option maxRecDepth 20000 in
theorem mi_98 : mm_inst 98 := ⟨(mm_t4 (w := .instanceMethod yX7_readPond) 7 (by decide +kernel) (by decide +kernel)), (mm_t0 (w := .selects RX7 yX7_readPond yX7_readPond) 28 (by decide +kernel) (by decide +kernel)), rfl⟩
set_option maxRecDepth 20000 in
theorem mc_99 : mm_cal 99 := ⟨(mm_t1 (w := .initialized RX7) 8 (by decide +kernel) (by decide +kernel)), (mm_t4 (w := .code yX7_beside cX7_beside 6 (some .int)) 32 (by decide +kernel) (by decide +kernel)), by decide +kernel, ⟨by decide +kernel, by decide +kernel, by decide +kernel⟩, Nat.le_of_ble_eq_true rfl, rfl⟩
set_option maxRecDepth 20000 in
theorem mi_99 : mm_inst 99 := ⟨(mm_t4 (w := .instanceMethod yX7_beside) 31 (by decide +kernel) (by decide +kernel)), (mm_t0 (w := .selects RX7 yX7_beside yX7_beside) 34 (by decide +kernel) (by decide +kernel)), rfl⟩
set_option maxRecDepth 20000 in
theorem mc_100 : mm_cal 100 := ⟨(mm_t1 (w := .initialized RX7) 8 (by decide +kernel) (by decide +kernel)), (mm_t4 (w := .code yX7_way cX7_way 3 (some .int)) 28 (by decide +kernel) (by decide +kernel)), by decide +kernel, ⟨by decide +kernel, by decide +kernel, by decide +kernel⟩, Nat.le_of_ble_eq_true rfl, rfl⟩
set_option maxRecDepth 20000 in
theorem mi_100 : mm_inst 100 := ⟨(mm_t4 (w := .instanceMethod yX7_way) 27 (by decide +kernel) (by decide +kernel)), (mm_t0 (w := .selects RX7 yX7_way yX7_way) 33 (by decide +kernel) (by decide +kernel)), rfl⟩
set_option maxRecDepth 20000 in
theorem mc_101 : mm_cal 101 := ⟨(mm_t1 (w := .initialized RX7) 8 (by decide +kernel) (by decide +kernel)), (mm_t4 (w := .code yX7_layWays cX7_layWays 3 none) 20 (by decide +kernel) (by decide +kernel)), by decide +kernel, ⟨by decide +kernel, by decide +kernel, by decide +kernel⟩, Nat.le_of_ble_eq_true rfl, rfl⟩
set_option maxRecDepth 20000 in
theorem mi_101 : mm_inst 101 := ⟨(mm_t4 (w := .instanceMethod yX7_layWays) 19 (by decide +kernel) (by decide +kernel)), (mm_t0 (w := .selects RX7 yX7_layWays yX7_layWays) 31 (by decide +kernel) (by decide +kernel)), rfl⟩
set_option maxRecDepth 20000 in
theorem mc_102 : mm_cal 102 := ⟨(mm_t1 (w := .initialized RX7) 8 (by decide +kernel) (by decide +kernel)), (mm_t4 (w := .code yX7_goOn cX7_goOn 6 none) 24 (by decide +kernel) (by decide +kernel)), by decide +kernel, ⟨by decide +kernel, by decide +kernel, by decide +kernel⟩, Nat.le_of_ble_eq_true rfl, rfl⟩
set_option maxRecDepth 20000 in
theorem mi_102 : mm_inst 102 := ⟨(mm_t4 (w := .instanceMethod yX7_goOn) 23 (by decide +kernel) (by decide +kernel)), (mm_t0 (w := .selects RX7 yX7_goOn yX7_goOn) 32 (by decide +kernel) (by decide +kernel)), rfl⟩
set_option maxRecDepth 20000 in
theorem mc_103 : mm_cal 103 := ⟨(mm_t1 (w := .initialized RX7) 8 (by decide +kernel) (by decide +kernel)), (mm_t4 (w := .code yX7_water cX7_water 2 (some .int)) 36 (by decide +kernel) (by decide +kernel)), by decide +kernel, ⟨by decide +kernel, by decide +kernel, by decide +kernel⟩, Nat.le_of_ble_eq_true rfl, rfl⟩
set_option maxRecDepth 20000 in
theorem mi_103 : mm_inst 103 := ⟨(mm_t4 (w := .instanceMethod yX7_water) 34 (by decide +kernel) (by decide +kernel)), (mm_t4 (w := .selects RX7 yX7_water yX7_water) 35 (by decide +kernel) (by decide +kernel)), rfl⟩
set_option maxRecDepth 20000 in
theorem mc_104 : mm_cal 104 := ⟨(mm_t1 (w := .initialized RX7) 8 (by decide +kernel) (by decide +kernel)), (mm_t4 (w := .code yX7_far cX7_far 3 (some .int)) 44 (by decide +kernel) (by decide +kernel)), by decide +kernel, ⟨by decide +kernel, by decide +kernel, by decide +kernel⟩, Nat.le_of_ble_eq_true rfl, rfl⟩
set_option maxRecDepth 20000 in
theorem mi_104 : mm_inst 104 := ⟨(mm_t4 (w := .instanceMethod yX7_far) 42 (by decide +kernel) (by decide +kernel)), (mm_t4 (w := .selects RX7 yX7_far yX7_far) 43 (by decide +kernel) (by decide +kernel)), rfl⟩
set_option maxRecDepth 20000 in
theorem mc_105 : mm_cal 105 := ⟨(mm_t1 (w := .initialized RX7) 8 (by decide +kernel) (by decide +kernel)), (mm_t4 (w := .code yX7_reach cX7_reach 1 (some .int)) 63 (by decide +kernel) (by decide +kernel)), by decide +kernel, ⟨by decide +kernel, by decide +kernel, by decide +kernel⟩, Nat.le_of_ble_eq_true rfl, rfl⟩
theorem mst_105 : mm_stat 105 := (mm_t4 (w := .static yX7_reach) 62 (by decide +kernel) (by decide +kernel))
set_option maxRecDepth 20000 in
theorem mc_106 : mm_cal 106 := ⟨(mm_t1 (w := .initialized RX7) 8 (by decide +kernel) (by decide +kernel)), (mm_t4 (w := .code yX7_comes cX7_comes 5 (some .boolean)) 76 (by decide +kernel) (by decide +kernel)), by decide +kernel, ⟨by decide +kernel, by decide +kernel, by decide +kernel⟩, Nat.le_of_ble_eq_true rfl, rfl⟩
set_option maxRecDepth 20000 in
theorem mi_106 : mm_inst 106 := ⟨(mm_t4 (w := .instanceMethod yX7_comes) 75 (by decide +kernel) (by decide +kernel)), (mm_t0 (w := .selects RX7 yX7_comes yX7_comes) 38 (by decide +kernel) (by decide +kernel)), rfl⟩
set_option maxRecDepth 20000 in
theorem mc_107 : mm_cal 107 := ⟨(mm_t1 (w := .initialized RX7) 8 (by decide +kernel) (by decide +kernel)), (mm_t4 (w := .code yX7_isStone cX7_isStone 2 (some .boolean)) 56 (by decide +kernel) (by decide +kernel)), by decide +kernel, ⟨by decide +kernel, by decide +kernel, by decide +kernel⟩, Nat.le_of_ble_eq_true rfl, rfl⟩
set_option maxRecDepth 20000 in
theorem mi_107 : mm_inst 107 := ⟨(mm_t4 (w := .instanceMethod yX7_isStone) 55 (by decide +kernel) (by decide +kernel)), (mm_t0 (w := .selects RX7 yX7_isStone yX7_isStone) 36 (by decide +kernel) (by decide +kernel)), rfl⟩
set_option maxRecDepth 20000 in
theorem mc_108 : mm_cal 108 := ⟨(mm_t1 (w := .initialized RX7) 8 (by decide +kernel) (by decide +kernel)), (mm_t4 (w := .code yX7_stone cX7_stone 4 (some .int)) 48 (by decide +kernel) (by decide +kernel)), by decide +kernel, ⟨by decide +kernel, by decide +kernel, by decide +kernel⟩, Nat.le_of_ble_eq_true rfl, rfl⟩
set_option maxRecDepth 20000 in
theorem mi_108 : mm_inst 108 := ⟨(mm_t4 (w := .instanceMethod yX7_stone) 46 (by decide +kernel) (by decide +kernel)), (mm_t4 (w := .selects RX7 yX7_stone yX7_stone) 47 (by decide +kernel) (by decide +kernel)), rfl⟩
set_option maxRecDepth 20000 in
theorem mc_109 : mm_cal 109 := ⟨(mm_t1 (w := .initialized RX7) 8 (by decide +kernel) (by decide +kernel)), (mm_t4 (w := .code yX7_overAt cX7_overAt 5 (some .int)) 60 (by decide +kernel) (by decide +kernel)), by decide +kernel, ⟨by decide +kernel, by decide +kernel, by decide +kernel⟩, Nat.le_of_ble_eq_true rfl, rfl⟩
set_option maxRecDepth 20000 in
theorem mi_109 : mm_inst 109 := ⟨(mm_t4 (w := .instanceMethod yX7_overAt) 59 (by decide +kernel) (by decide +kernel)), (mm_t0 (w := .selects RX7 yX7_overAt yX7_overAt) 37 (by decide +kernel) (by decide +kernel)), rfl⟩
set_option maxRecDepth 20000 in
theorem mc_110 : mm_cal 110 := ⟨(mm_t1 (w := .initialized RX7) 8 (by decide +kernel) (by decide +kernel)), (mm_t4 (w := .code yX7_ofStone cX7_ofStone 3 (some .int)) 52 (by decide +kernel) (by decide +kernel)), by decide +kernel, ⟨by decide +kernel, by decide +kernel, by decide +kernel⟩, Nat.le_of_ble_eq_true rfl, rfl⟩
set_option maxRecDepth 20000 in
theorem mi_110 : mm_inst 110 := ⟨(mm_t4 (w := .instanceMethod yX7_ofStone) 50 (by decide +kernel) (by decide +kernel)), (mm_t4 (w := .selects RX7 yX7_ofStone yX7_ofStone) 51 (by decide +kernel) (by decide +kernel)), rfl⟩
set_option maxRecDepth 20000 in
theorem mc_111 : mm_cal 111 := ⟨(mm_t1 (w := .initialized RX7) 8 (by decide +kernel) (by decide +kernel)), (mm_t4 (w := .code yX7_back cX7_back 2 (some .int)) 67 (by decide +kernel) (by decide +kernel)), by decide +kernel, ⟨by decide +kernel, by decide +kernel, by decide +kernel⟩, Nat.le_of_ble_eq_true rfl, rfl⟩
set_option maxRecDepth 20000 in
theorem mi_111 : mm_inst 111 := ⟨(mm_t4 (w := .instanceMethod yX7_back) 65 (by decide +kernel) (by decide +kernel)), (mm_t4 (w := .selects RX7 yX7_back yX7_back) 66 (by decide +kernel) (by decide +kernel)), rfl⟩
set_option maxRecDepth 20000 in
theorem mc_112 : mm_cal 112 := ⟨(mm_t1 (w := .initialized RX7) 8 (by decide +kernel) (by decide +kernel)), (mm_t4 (w := .code yX7_ring cX7_ring 6 (some .long)) 71 (by decide +kernel) (by decide +kernel)), by decide +kernel, ⟨by decide +kernel, by decide +kernel, by decide +kernel⟩, Nat.le_of_ble_eq_true rfl, rfl⟩
set_option maxRecDepth 20000 in
theorem mi_112 : mm_inst 112 := ⟨(mm_t4 (w := .instanceMethod yX7_ring) 69 (by decide +kernel) (by decide +kernel)), (mm_t4 (w := .selects RX7 yX7_ring yX7_ring) 70 (by decide +kernel) (by decide +kernel)), rfl⟩
set_option maxRecDepth 20000 in
theorem mc_113 : mm_cal 113 := ⟨(mm_t1 (w := .initialized RX7) 8 (by decide +kernel) (by decide +kernel)), (mm_t4 (w := .code yX7_offer cX7_offer 6 none) 92 (by decide +kernel) (by decide +kernel)), by decide +kernel, ⟨by decide +kernel, by decide +kernel, by decide +kernel⟩, Nat.le_of_ble_eq_true rfl, rfl⟩
set_option maxRecDepth 20000 in
theorem mi_113 : mm_inst 113 := ⟨(mm_t4 (w := .instanceMethod yX7_offer) 91 (by decide +kernel) (by decide +kernel)), (mm_t0 (w := .selects RX7 yX7_offer yX7_offer) 41 (by decide +kernel) (by decide +kernel)), rfl⟩
set_option maxRecDepth 20000 in
theorem mc_114 : mm_cal 114 := ⟨(mm_t1 (w := .initialized RX7) 8 (by decide +kernel) (by decide +kernel)), (mm_t4 (w := .code yX7_findMeet cX7_findMeet 8 none) 84 (by decide +kernel) (by decide +kernel)), by decide +kernel, ⟨by decide +kernel, by decide +kernel, by decide +kernel⟩, Nat.le_of_ble_eq_true rfl, rfl⟩
set_option maxRecDepth 20000 in
theorem mi_114 : mm_inst 114 := ⟨(mm_t4 (w := .instanceMethod yX7_findMeet) 83 (by decide +kernel) (by decide +kernel)), (mm_t0 (w := .selects RX7 yX7_findMeet yX7_findMeet) 39 (by decide +kernel) (by decide +kernel)), rfl⟩
set_option maxRecDepth 20000 in
theorem mc_115 : mm_cal 115 := ⟨(mm_t1 (w := .initialized RX7) 8 (by decide +kernel) (by decide +kernel)), (mm_t4 (w := .code yX7_isThere cX7_isThere 4 (some .boolean)) 88 (by decide +kernel) (by decide +kernel)), by decide +kernel, ⟨by decide +kernel, by decide +kernel, by decide +kernel⟩, Nat.le_of_ble_eq_true rfl, rfl⟩
set_option maxRecDepth 20000 in
theorem mi_115 : mm_inst 115 := ⟨(mm_t4 (w := .instanceMethod yX7_isThere) 87 (by decide +kernel) (by decide +kernel)), (mm_t0 (w := .selects RX7 yX7_isThere yX7_isThere) 40 (by decide +kernel) (by decide +kernel)), rfl⟩
set_option maxRecDepth 20000 in
theorem mc_116 : mm_cal 116 := ⟨(mm_t1 (w := .initialized RX7) 8 (by decide +kernel) (by decide +kernel)), (mm_t4 (w := .code yX7_meet cX7_meet 4 (some .int)) 80 (by decide +kernel) (by decide +kernel)), by decide +kernel, ⟨by decide +kernel, by decide +kernel, by decide +kernel⟩, Nat.le_of_ble_eq_true rfl, rfl⟩
set_option maxRecDepth 20000 in
theorem mi_116 : mm_inst 116 := ⟨(mm_t4 (w := .instanceMethod yX7_meet) 78 (by decide +kernel) (by decide +kernel)), (mm_t4 (w := .selects RX7 yX7_meet yX7_meet) 79 (by decide +kernel) (by decide +kernel)), rfl⟩
set_option maxRecDepth 20000 in
theorem mc_117 : mm_cal 117 := ⟨(mm_t1 (w := .initialized RX7) 8 (by decide +kernel) (by decide +kernel)), (mm_t4 (w := .code yX7_first cX7_first 7 (some .int)) 96 (by decide +kernel) (by decide +kernel)), by decide +kernel, ⟨by decide +kernel, by decide +kernel, by decide +kernel⟩, Nat.le_of_ble_eq_true rfl, rfl⟩
set_option maxRecDepth 20000 in
theorem mi_117 : mm_inst 117 := ⟨(mm_t4 (w := .instanceMethod yX7_first) 94 (by decide +kernel) (by decide +kernel)), (mm_t4 (w := .selects RX7 yX7_first yX7_first) 95 (by decide +kernel) (by decide +kernel)), rfl⟩
set_option maxRecDepth 20000 in
theorem mc_118 : mm_cal 118 := ⟨(mm_t1 (w := .initialized RX7) 8 (by decide +kernel) (by decide +kernel)), (mm_t4 (w := .code yX7_isWish cX7_isWish 2 (some .boolean)) 108 (by decide +kernel) (by decide +kernel)), by decide +kernel, ⟨by decide +kernel, by decide +kernel, by decide +kernel⟩, Nat.le_of_ble_eq_true rfl, rfl⟩
set_option maxRecDepth 20000 in
theorem mi_118 : mm_inst 118 := ⟨(mm_t4 (w := .instanceMethod yX7_isWish) 107 (by decide +kernel) (by decide +kernel)), (mm_t0 (w := .selects RX7 yX7_isWish yX7_isWish) 42 (by decide +kernel) (by decide +kernel)), rfl⟩
set_option maxRecDepth 20000 in
theorem mc_119 : mm_cal 119 := ⟨(mm_t1 (w := .initialized RX7) 8 (by decide +kernel) (by decide +kernel)), (mm_t4 (w := .code yX7_wish cX7_wish 3 (some .int)) 100 (by decide +kernel) (by decide +kernel)), by decide +kernel, ⟨by decide +kernel, by decide +kernel, by decide +kernel⟩, Nat.le_of_ble_eq_true rfl, rfl⟩
set_option maxRecDepth 20000 in
theorem mi_119 : mm_inst 119 := ⟨(mm_t4 (w := .instanceMethod yX7_wish) 98 (by decide +kernel) (by decide +kernel)), (mm_t4 (w := .selects RX7 yX7_wish yX7_wish) 99 (by decide +kernel) (by decide +kernel)), rfl⟩
set_option maxRecDepth 20000 in
theorem mc_120 : mm_cal 120 := ⟨(mm_t1 (w := .initialized RX7) 8 (by decide +kernel) (by decide +kernel)), (mm_t4 (w := .code yX7_ofWish cX7_ofWish 3 (some .int)) 104 (by decide +kernel) (by decide +kernel)), by decide +kernel, ⟨by decide +kernel, by decide +kernel, by decide +kernel⟩, Nat.le_of_ble_eq_true rfl, rfl⟩
set_option maxRecDepth 20000 in
theorem mi_120 : mm_inst 120 := ⟨(mm_t4 (w := .instanceMethod yX7_ofWish) 102 (by decide +kernel) (by decide +kernel)), (mm_t4 (w := .selects RX7 yX7_ofWish yX7_ofWish) 103 (by decide +kernel) (by decide +kernel)), rfl⟩
set_option maxRecDepth 20000 in
theorem mc_121 : mm_cal 121 := ⟨(mm_t1 (w := .initialized RX7) 8 (by decide +kernel) (by decide +kernel)), (mm_t4 (w := .code yX7_drop cX7_drop 2 (some .int)) 112 (by decide +kernel) (by decide +kernel)), by decide +kernel, ⟨by decide +kernel, by decide +kernel, by decide +kernel⟩, Nat.le_of_ble_eq_true rfl, rfl⟩
set_option maxRecDepth 20000 in
theorem mi_121 : mm_inst 121 := ⟨(mm_t4 (w := .instanceMethod yX7_drop) 110 (by decide +kernel) (by decide +kernel)), (mm_t4 (w := .selects RX7 yX7_drop yX7_drop) 111 (by decide +kernel) (by decide +kernel)), rfl⟩
set_option maxRecDepth 20000 in
theorem mc_122 : mm_cal 122 := ⟨(mm_t1 (w := .initialized RX7) 8 (by decide +kernel) (by decide +kernel)), (mm_t4 (w := .code yX7_isWithin cX7_isWithin 4 (some .boolean)) 128 (by decide +kernel) (by decide +kernel)), by decide +kernel, ⟨by decide +kernel, by decide +kernel, by decide +kernel⟩, Nat.le_of_ble_eq_true rfl, rfl⟩
set_option maxRecDepth 20000 in
theorem mi_122 : mm_inst 122 := ⟨(mm_t4 (w := .instanceMethod yX7_isWithin) 127 (by decide +kernel) (by decide +kernel)), (mm_t0 (w := .selects RX7 yX7_isWithin yX7_isWithin) 45 (by decide +kernel) (by decide +kernel)), rfl⟩
set_option maxRecDepth 20000 in
theorem mc_123 : mm_cal 123 := ⟨(mm_t1 (w := .initialized RX7) 8 (by decide +kernel) (by decide +kernel)), (mm_t4 (w := .code yX7_meetBy cX7_meetBy 4 (some .boolean)) 132 (by decide +kernel) (by decide +kernel)), by decide +kernel, ⟨by decide +kernel, by decide +kernel, by decide +kernel⟩, Nat.le_of_ble_eq_true rfl, rfl⟩
set_option maxRecDepth 20000 in
theorem mi_123 : mm_inst 123 := ⟨(mm_t4 (w := .instanceMethod yX7_meetBy) 131 (by decide +kernel) (by decide +kernel)), (mm_t0 (w := .selects RX7 yX7_meetBy yX7_meetBy) 46 (by decide +kernel) (by decide +kernel)), rfl⟩
set_option maxRecDepth 20000 in
theorem mc_124 : mm_cal 124 := ⟨(mm_t1 (w := .initialized RX7) 8 (by decide +kernel) (by decide +kernel)), (mm_t4 (w := .code yX7_layMeets cX7_layMeets 4 none) 120 (by decide +kernel) (by decide +kernel)), by decide +kernel, ⟨by decide +kernel, by decide +kernel, by decide +kernel⟩, Nat.le_of_ble_eq_true rfl, rfl⟩
set_option maxRecDepth 20000 in
theorem mi_124 : mm_inst 124 := ⟨(mm_t4 (w := .instanceMethod yX7_layMeets) 119 (by decide +kernel) (by decide +kernel)), (mm_t0 (w := .selects RX7 yX7_layMeets yX7_layMeets) 43 (by decide +kernel) (by decide +kernel)), rfl⟩
set_option maxRecDepth 20000 in
theorem mc_125 : mm_cal 125 := ⟨(mm_t1 (w := .initialized RX7) 8 (by decide +kernel) (by decide +kernel)), (mm_t4 (w := .code yX7_layMeetsAt cX7_layMeetsAt 9 none) 124 (by decide +kernel) (by decide +kernel)), by decide +kernel, ⟨by decide +kernel, by decide +kernel, by decide +kernel⟩, Nat.le_of_ble_eq_true rfl, rfl⟩
set_option maxRecDepth 20000 in
theorem mi_125 : mm_inst 125 := ⟨(mm_t4 (w := .instanceMethod yX7_layMeetsAt) 123 (by decide +kernel) (by decide +kernel)), (mm_t0 (w := .selects RX7 yX7_layMeetsAt yX7_layMeetsAt) 44 (by decide +kernel) (by decide +kernel)), rfl⟩
set_option maxRecDepth 20000 in
theorem mc_126 : mm_cal 126 := ⟨(mm_t1 (w := .initialized RX7) 8 (by decide +kernel) (by decide +kernel)), (mm_t4 (w := .code yX7_apart cX7_apart 4 (some .int)) 116 (by decide +kernel) (by decide +kernel)), by decide +kernel, ⟨by decide +kernel, by decide +kernel, by decide +kernel⟩, Nat.le_of_ble_eq_true rfl, rfl⟩
set_option maxRecDepth 20000 in
theorem mi_126 : mm_inst 126 := ⟨(mm_t4 (w := .instanceMethod yX7_apart) 114 (by decide +kernel) (by decide +kernel)), (mm_t4 (w := .selects RX7 yX7_apart yX7_apart) 115 (by decide +kernel) (by decide +kernel)), rfl⟩
set_option maxRecDepth 20000 in
theorem mc_127 : mm_cal 127 := ⟨(mm_t1 (w := .initialized RX7) 8 (by decide +kernel) (by decide +kernel)), (mm_t4 (w := .code yX7_size cX7_size 3 (some .int)) 143 (by decide +kernel) (by decide +kernel)), by decide +kernel, ⟨by decide +kernel, by decide +kernel, by decide +kernel⟩, Nat.le_of_ble_eq_true rfl, rfl⟩
theorem mst_127 : mm_stat 127 := (mm_t4 (w := .static yX7_size) 142 (by decide +kernel) (by decide +kernel))
set_option maxRecDepth 20000 in
theorem mc_128 : mm_cal 128 := ⟨(mm_t1 (w := .initialized RX7) 8 (by decide +kernel) (by decide +kernel)), (mm_t4 (w := .code yX7_mayAtOnce cX7_mayAtOnce 4 (some .boolean)) 147 (by decide +kernel) (by decide +kernel)), by decide +kernel, ⟨by decide +kernel, by decide +kernel, by decide +kernel⟩, Nat.le_of_ble_eq_true rfl, rfl⟩
set_option maxRecDepth 20000 in
theorem mi_128 : mm_inst 128 := ⟨(mm_t4 (w := .instanceMethod yX7_mayAtOnce) 146 (by decide +kernel) (by decide +kernel)), (mm_t0 (w := .selects RX7 yX7_mayAtOnce yX7_mayAtOnce) 48 (by decide +kernel) (by decide +kernel)), rfl⟩
set_option maxRecDepth 20000 in
theorem mc_129 : mm_cal 129 := ⟨(mm_t1 (w := .initialized RX7) 8 (by decide +kernel) (by decide +kernel)), (mm_t4 (w := .code yX7_mostAtOnce cX7_mostAtOnce 3 (some .int)) 140 (by decide +kernel) (by decide +kernel)), by decide +kernel, ⟨by decide +kernel, by decide +kernel, by decide +kernel⟩, Nat.le_of_ble_eq_true rfl, rfl⟩
set_option maxRecDepth 20000 in
theorem mi_129 : mm_inst 129 := ⟨(mm_t4 (w := .instanceMethod yX7_mostAtOnce) 139 (by decide +kernel) (by decide +kernel)), (mm_t0 (w := .selects RX7 yX7_mostAtOnce yX7_mostAtOnce) 47 (by decide +kernel) (by decide +kernel)), rfl⟩
set_option maxRecDepth 20000 in
theorem mc_130 : mm_cal 130 := ⟨(mm_t1 (w := .initialized RX7) 8 (by decide +kernel) (by decide +kernel)), (mm_t4 (w := .code yX7_atOnce cX7_atOnce 1 (some .int)) 136 (by decide +kernel) (by decide +kernel)), by decide +kernel, ⟨by decide +kernel, by decide +kernel, by decide +kernel⟩, Nat.le_of_ble_eq_true rfl, rfl⟩
set_option maxRecDepth 20000 in
theorem mi_130 : mm_inst 130 := ⟨(mm_t4 (w := .instanceMethod yX7_atOnce) 134 (by decide +kernel) (by decide +kernel)), (mm_t4 (w := .selects RX7 yX7_atOnce yX7_atOnce) 135 (by decide +kernel) (by decide +kernel)), rfl⟩
set_option maxRecDepth 20000 in
theorem mc_131 : mm_cal 131 := ⟨(mm_t1 (w := .initialized RX7) 8 (by decide +kernel) (by decide +kernel)), (mm_t4 (w := .code yX7_mayBe cX7_mayBe 6 (some .boolean)) 159 (by decide +kernel) (by decide +kernel)), by decide +kernel, ⟨by decide +kernel, by decide +kernel, by decide +kernel⟩, Nat.le_of_ble_eq_true rfl, rfl⟩
set_option maxRecDepth 20000 in
theorem mi_131 : mm_inst 131 := ⟨(mm_t4 (w := .instanceMethod yX7_mayBe) 158 (by decide +kernel) (by decide +kernel)), (mm_t0 (w := .selects RX7 yX7_mayBe yX7_mayBe) 50 (by decide +kernel) (by decide +kernel)), rfl⟩
set_option maxRecDepth 20000 in
theorem mc_132 : mm_cal 132 := ⟨(mm_t1 (w := .initialized RX7) 8 (by decide +kernel) (by decide +kernel)), (mm_t4 (w := .code yX7_mayGoOn cX7_mayGoOn 7 (some .boolean)) 163 (by decide +kernel) (by decide +kernel)), by decide +kernel, ⟨by decide +kernel, by decide +kernel, by decide +kernel⟩, Nat.le_of_ble_eq_true rfl, rfl⟩
set_option maxRecDepth 20000 in
theorem mi_132 : mm_inst 132 := ⟨(mm_t4 (w := .instanceMethod yX7_mayGoOn) 162 (by decide +kernel) (by decide +kernel)), (mm_t0 (w := .selects RX7 yX7_mayGoOn yX7_mayGoOn) 51 (by decide +kernel) (by decide +kernel)), rfl⟩
set_option maxRecDepth 20000 in
theorem mc_133 : mm_cal 133 := ⟨(mm_t1 (w := .initialized RX7) 8 (by decide +kernel) (by decide +kernel)), (mm_t4 (w := .code yX7_find cX7_find 5 (some .boolean)) 155 (by decide +kernel) (by decide +kernel)), by decide +kernel, ⟨by decide +kernel, by decide +kernel, by decide +kernel⟩, Nat.le_of_ble_eq_true rfl, rfl⟩
set_option maxRecDepth 20000 in
theorem mi_133 : mm_inst 133 := ⟨(mm_t4 (w := .instanceMethod yX7_find) 154 (by decide +kernel) (by decide +kernel)), (mm_t0 (w := .selects RX7 yX7_find yX7_find) 49 (by decide +kernel) (by decide +kernel)), rfl⟩
set_option maxRecDepth 20000 in
theorem mc_134 : mm_cal 134 := ⟨(mm_t1 (w := .initialized RX7) 8 (by decide +kernel) (by decide +kernel)), (mm_t4 (w := .code yX7_soonest cX7_soonest 3 (some .int)) 151 (by decide +kernel) (by decide +kernel)), by decide +kernel, ⟨by decide +kernel, by decide +kernel, by decide +kernel⟩, Nat.le_of_ble_eq_true rfl, rfl⟩
set_option maxRecDepth 20000 in
theorem mi_134 : mm_inst 134 := ⟨(mm_t4 (w := .instanceMethod yX7_soonest) 149 (by decide +kernel) (by decide +kernel)), (mm_t4 (w := .selects RX7 yX7_soonest yX7_soonest) 150 (by decide +kernel) (by decide +kernel)), rfl⟩
set_option maxRecDepth 20000 in
theorem mc_135 : mm_cal 135 := ⟨(mm_t1 (w := .initialized RX7) 8 (by decide +kernel) (by decide +kernel)), (mm_t4 (w := .code yX7_alone cX7_alone 4 (some .int)) 167 (by decide +kernel) (by decide +kernel)), by decide +kernel, ⟨by decide +kernel, by decide +kernel, by decide +kernel⟩, Nat.le_of_ble_eq_true rfl, rfl⟩
set_option maxRecDepth 20000 in
theorem mi_135 : mm_inst 135 := ⟨(mm_t4 (w := .instanceMethod yX7_alone) 165 (by decide +kernel) (by decide +kernel)), (mm_t4 (w := .selects RX7 yX7_alone yX7_alone) 166 (by decide +kernel) (by decide +kernel)), rfl⟩
set_option maxRecDepth 20000 in
theorem mc_136 : mm_cal 136 := ⟨(mm_t1 (w := .initialized RX7) 8 (by decide +kernel) (by decide +kernel)), (mm_t4 (w := .code yX7_sunset cX7_sunset 4 (some .int)) 171 (by decide +kernel) (by decide +kernel)), by decide +kernel, ⟨by decide +kernel, by decide +kernel, by decide +kernel⟩, Nat.le_of_ble_eq_true rfl, rfl⟩
set_option maxRecDepth 20000 in
theorem mi_136 : mm_inst 136 := ⟨(mm_t4 (w := .instanceMethod yX7_sunset) 169 (by decide +kernel) (by decide +kernel)), (mm_t4 (w := .selects RX7 yX7_sunset yX7_sunset) 170 (by decide +kernel) (by decide +kernel)), rfl⟩
set_option maxRecDepth 20000 in
theorem mc_137 : mm_cal 137 := ⟨(mm_t1 (w := .initialized RX7) 8 (by decide +kernel) (by decide +kernel)), (mm_t4 (w := .code yX7_reed cX7_reed 3 (some .int)) 175 (by decide +kernel) (by decide +kernel)), by decide +kernel, ⟨by decide +kernel, by decide +kernel, by decide +kernel⟩, Nat.le_of_ble_eq_true rfl, rfl⟩
set_option maxRecDepth 20000 in
theorem mi_137 : mm_inst 137 := ⟨(mm_t4 (w := .instanceMethod yX7_reed) 173 (by decide +kernel) (by decide +kernel)), (mm_t4 (w := .selects RX7 yX7_reed yX7_reed) 174 (by decide +kernel) (by decide +kernel)), rfl⟩
set_option maxRecDepth 20000 in
theorem mc_138 : mm_cal 138 := ⟨(mm_t1 (w := .initialized RX7) 8 (by decide +kernel) (by decide +kernel)), (mm_t4 (w := .code yX7_pull cX7_pull 2 (some .int)) 179 (by decide +kernel) (by decide +kernel)), by decide +kernel, ⟨by decide +kernel, by decide +kernel, by decide +kernel⟩, Nat.le_of_ble_eq_true rfl, rfl⟩
set_option maxRecDepth 20000 in
theorem mi_138 : mm_inst 138 := ⟨(mm_t4 (w := .instanceMethod yX7_pull) 177 (by decide +kernel) (by decide +kernel)), (mm_t4 (w := .selects RX7 yX7_pull yX7_pull) 178 (by decide +kernel) (by decide +kernel)), rfl⟩
set_option maxRecDepth 20000 in
theorem mc_139 : mm_cal 139 := ⟨(mm_t1 (w := .initialized RX7) 8 (by decide +kernel) (by decide +kernel)), (mm_t4 (w := .code yX7_doesFit cX7_doesFit 5 (some .boolean)) 187 (by decide +kernel) (by decide +kernel)), by decide +kernel, ⟨by decide +kernel, by decide +kernel, by decide +kernel⟩, Nat.le_of_ble_eq_true rfl, rfl⟩
set_option maxRecDepth 20000 in
theorem mi_139 : mm_inst 139 := ⟨(mm_t4 (w := .instanceMethod yX7_doesFit) 186 (by decide +kernel) (by decide +kernel)), (mm_t0 (w := .selects RX7 yX7_doesFit yX7_doesFit) 52 (by decide +kernel) (by decide +kernel)), rfl⟩
set_option maxRecDepth 20000 in
theorem mc_140 : mm_cal 140 := ⟨(mm_t1 (w := .initialized RX7) 8 (by decide +kernel) (by decide +kernel)), (mm_t4 (w := .code yX7_fits cX7_fits 6 (some .int)) 183 (by decide +kernel) (by decide +kernel)), by decide +kernel, ⟨by decide +kernel, by decide +kernel, by decide +kernel⟩, Nat.le_of_ble_eq_true rfl, rfl⟩
set_option maxRecDepth 20000 in
theorem mi_140 : mm_inst 140 := ⟨(mm_t4 (w := .instanceMethod yX7_fits) 181 (by decide +kernel) (by decide +kernel)), (mm_t4 (w := .selects RX7 yX7_fits yX7_fits) 182 (by decide +kernel) (by decide +kernel)), rfl⟩
set_option maxRecDepth 20000 in
theorem mc_141 : mm_cal 141 := ⟨(mm_t1 (w := .initialized RX7) 8 (by decide +kernel) (by decide +kernel)), (mm_t4 (w := .code yX7_dig cX7_dig 6 (some .int)) 191 (by decide +kernel) (by decide +kernel)), by decide +kernel, ⟨by decide +kernel, by decide +kernel, by decide +kernel⟩, Nat.le_of_ble_eq_true rfl, rfl⟩
set_option maxRecDepth 20000 in
theorem mi_141 : mm_inst 141 := ⟨(mm_t4 (w := .instanceMethod yX7_dig) 189 (by decide +kernel) (by decide +kernel)), (mm_t4 (w := .selects RX7 yX7_dig yX7_dig) 190 (by decide +kernel) (by decide +kernel)), rfl⟩
set_option maxRecDepth 20000 in
theorem mc_142 : mm_cal 142 := ⟨(mm_t1 (w := .initialized RX7) 8 (by decide +kernel) (by decide +kernel)), (mm_t4 (w := .code yX7_sheet cX7_sheet 5 (some .int)) 195 (by decide +kernel) (by decide +kernel)), by decide +kernel, ⟨by decide +kernel, by decide +kernel, by decide +kernel⟩, Nat.le_of_ble_eq_true rfl, rfl⟩
set_option maxRecDepth 20000 in
theorem mi_142 : mm_inst 142 := ⟨(mm_t4 (w := .instanceMethod yX7_sheet) 193 (by decide +kernel) (by decide +kernel)), (mm_t4 (w := .selects RX7 yX7_sheet yX7_sheet) 194 (by decide +kernel) (by decide +kernel)), rfl⟩
set_option maxRecDepth 20000 in
theorem mc_143 : mm_cal 143 := ⟨(mm_t1 (w := .initialized RX7) 8 (by decide +kernel) (by decide +kernel)), (mm_t4 (w := .code yX7_lose cX7_lose 3 (some .int)) 199 (by decide +kernel) (by decide +kernel)), by decide +kernel, ⟨by decide +kernel, by decide +kernel, by decide +kernel⟩, Nat.le_of_ble_eq_true rfl, rfl⟩
set_option maxRecDepth 20000 in
theorem mi_143 : mm_inst 143 := ⟨(mm_t4 (w := .instanceMethod yX7_lose) 197 (by decide +kernel) (by decide +kernel)), (mm_t4 (w := .selects RX7 yX7_lose yX7_lose) 198 (by decide +kernel) (by decide +kernel)), rfl⟩
set_option maxRecDepth 20000 in
theorem mc_144 : mm_cal 144 := ⟨(mm_t1 (w := .initialized RX7) 8 (by decide +kernel) (by decide +kernel)), (mm_t4 (w := .code yX7_put cX7_put 4 (some .int)) 203 (by decide +kernel) (by decide +kernel)), by decide +kernel, ⟨by decide +kernel, by decide +kernel, by decide +kernel⟩, Nat.le_of_ble_eq_true rfl, rfl⟩
set_option maxRecDepth 20000 in
theorem mi_144 : mm_inst 144 := ⟨(mm_t4 (w := .instanceMethod yX7_put) 201 (by decide +kernel) (by decide +kernel)), (mm_t4 (w := .selects RX7 yX7_put yX7_put) 202 (by decide +kernel) (by decide +kernel)), rfl⟩
set_option maxRecDepth 20000 in
theorem mc_145 : mm_cal 145 := ⟨(mm_t1 (w := .initialized RX7) 8 (by decide +kernel) (by decide +kernel)), (mm_t4 (w := .code yX7_cell cX7_cell 4 (some .long)) 207 (by decide +kernel) (by decide +kernel)), by decide +kernel, ⟨by decide +kernel, by decide +kernel, by decide +kernel⟩, Nat.le_of_ble_eq_true rfl, rfl⟩
set_option maxRecDepth 20000 in
theorem mi_145 : mm_inst 145 := ⟨(mm_t4 (w := .instanceMethod yX7_cell) 205 (by decide +kernel) (by decide +kernel)), (mm_t4 (w := .selects RX7 yX7_cell yX7_cell) 206 (by decide +kernel) (by decide +kernel)), rfl⟩
set_option maxRecDepth 20000 in
theorem mc_146 : mm_cal 146 := ⟨(mm_t1 (w := .initialized RX7) 8 (by decide +kernel) (by decide +kernel)), (mm_t4 (w := .code yX7_copy cX7_copy 10 (some .int)) 215 (by decide +kernel) (by decide +kernel)), by decide +kernel, ⟨by decide +kernel, by decide +kernel, by decide +kernel⟩, Nat.le_of_ble_eq_true rfl, rfl⟩
set_option maxRecDepth 20000 in
theorem mi_146 : mm_inst 146 := ⟨(mm_t4 (w := .instanceMethod yX7_copy) 213 (by decide +kernel) (by decide +kernel)), (mm_t4 (w := .selects RX7 yX7_copy yX7_copy) 214 (by decide +kernel) (by decide +kernel)), rfl⟩
set_option maxRecDepth 20000 in
theorem mc_147 : mm_cal 147 := ⟨(mm_t1 (w := .initialized RX7) 8 (by decide +kernel) (by decide +kernel)), (mm_t4 (w := .code yX7_begins cX7_begins 2 none) 223 (by decide +kernel) (by decide +kernel)), by decide +kernel, ⟨by decide +kernel, by decide +kernel, by decide +kernel⟩, Nat.le_of_ble_eq_true rfl, rfl⟩
set_option maxRecDepth 20000 in
theorem mi_147 : mm_inst 147 := ⟨(mm_t4 (w := .instanceMethod yX7_begins) 222 (by decide +kernel) (by decide +kernel)), (mm_t0 (w := .selects RX7 yX7_begins yX7_begins) 54 (by decide +kernel) (by decide +kernel)), rfl⟩
set_option maxRecDepth 20000 in
theorem mc_148 : mm_cal 148 := ⟨(mm_t1 (w := .initialized RX7) 8 (by decide +kernel) (by decide +kernel)), (mm_t4 (w := .code yX7_tell cX7_tell 3 (some .int)) 219 (by decide +kernel) (by decide +kernel)), by decide +kernel, ⟨by decide +kernel, by decide +kernel, by decide +kernel⟩, Nat.le_of_ble_eq_true rfl, rfl⟩
set_option maxRecDepth 20000 in
theorem mi_148 : mm_inst 148 := ⟨(mm_t4 (w := .instanceMethod yX7_tell) 217 (by decide +kernel) (by decide +kernel)), (mm_t4 (w := .selects RX7 yX7_tell yX7_tell) 218 (by decide +kernel) (by decide +kernel)), rfl⟩
set_option maxRecDepth 20000 in
theorem mc_149 : mm_cal 149 := ⟨(mm_t1 (w := .initialized RX7) 8 (by decide +kernel) (by decide +kernel)), (mm_t4 (w := .code yX7_make cX7_make 2 (some .int)) 227 (by decide +kernel) (by decide +kernel)), by decide +kernel, ⟨by decide +kernel, by decide +kernel, by decide +kernel⟩, Nat.le_of_ble_eq_true rfl, rfl⟩
set_option maxRecDepth 20000 in
theorem mi_149 : mm_inst 149 := ⟨(mm_t4 (w := .instanceMethod yX7_make) 225 (by decide +kernel) (by decide +kernel)), (mm_t4 (w := .selects RX7 yX7_make yX7_make) 226 (by decide +kernel) (by decide +kernel)), rfl⟩
set_option maxRecDepth 20000 in
theorem mc_150 : mm_cal 150 := ⟨(mm_t1 (w := .initialized RX7) 8 (by decide +kernel) (by decide +kernel)), (mm_t4 (w := .code yX7_as cX7_as 3 (some .int)) 231 (by decide +kernel) (by decide +kernel)), by decide +kernel, ⟨by decide +kernel, by decide +kernel, by decide +kernel⟩, Nat.le_of_ble_eq_true rfl, rfl⟩
set_option maxRecDepth 20000 in
theorem mi_150 : mm_inst 150 := ⟨(mm_t4 (w := .instanceMethod yX7_as) 229 (by decide +kernel) (by decide +kernel)), (mm_t4 (w := .selects RX7 yX7_as yX7_as) 230 (by decide +kernel) (by decide +kernel)), rfl⟩
set_option maxRecDepth 20000 in
theorem mc_151 : mm_cal 151 := ⟨(mm_t1 (w := .initialized RX7) 8 (by decide +kernel) (by decide +kernel)), (mm_t4 (w := .code yX7_trace cX7_trace 1 (some .int)) 235 (by decide +kernel) (by decide +kernel)), by decide +kernel, ⟨by decide +kernel, by decide +kernel, by decide +kernel⟩, Nat.le_of_ble_eq_true rfl, rfl⟩
set_option maxRecDepth 20000 in
theorem mi_151 : mm_inst 151 := ⟨(mm_t4 (w := .instanceMethod yX7_trace) 233 (by decide +kernel) (by decide +kernel)), (mm_t4 (w := .selects RX7 yX7_trace yX7_trace) 234 (by decide +kernel) (by decide +kernel)), rfl⟩
set_option maxRecDepth 20000 in
theorem mc_152 : mm_cal 152 := ⟨(mm_t1 (w := .initialized RX7) 8 (by decide +kernel) (by decide +kernel)), (mm_t4 (w := .code yX7_fault cX7_fault 1 (some .int)) 239 (by decide +kernel) (by decide +kernel)), by decide +kernel, ⟨by decide +kernel, by decide +kernel, by decide +kernel⟩, Nat.le_of_ble_eq_true rfl, rfl⟩
set_option maxRecDepth 20000 in
theorem mi_152 : mm_inst 152 := ⟨(mm_t4 (w := .instanceMethod yX7_fault) 237 (by decide +kernel) (by decide +kernel)), (mm_t4 (w := .selects RX7 yX7_fault yX7_fault) 238 (by decide +kernel) (by decide +kernel)), rfl⟩
set_option maxRecDepth 20000 in
theorem mc_153 : mm_cal 153 := ⟨(mm_t1 (w := .initialized RX7) 8 (by decide +kernel) (by decide +kernel)), (mm_t5 (w := .code yX7_many cX7_many 2 (some .int)) 3 (by decide +kernel) (by decide +kernel)), by decide +kernel, ⟨by decide +kernel, by decide +kernel, by decide +kernel⟩, Nat.le_of_ble_eq_true rfl, rfl⟩
set_option maxRecDepth 20000 in
theorem mi_153 : mm_inst 153 := ⟨(mm_t5 (w := .instanceMethod yX7_many) 1 (by decide +kernel) (by decide +kernel)), (mm_t5 (w := .selects RX7 yX7_many yX7_many) 2 (by decide +kernel) (by decide +kernel)), rfl⟩
set_option maxRecDepth 20000 in
theorem mc_154 : mm_cal 154 := ⟨(mm_t1 (w := .initialized RJ6) 12 (by decide +kernel) (by decide +kernel)), (mm_t2 (w := .code yJ6_bitCount_0f7a4 cJ6_bitCount_0f7a4 1 (some .int)) 185 (by decide +kernel) (by decide +kernel)), by decide +kernel, ⟨by decide +kernel, by decide +kernel, by decide +kernel⟩, Nat.le_of_ble_eq_true rfl, rfl⟩
theorem mst_154 : mm_stat 154 := (mm_t2 (w := .static yJ6_bitCount_0f7a4) 184 (by decide +kernel) (by decide +kernel))
set_option maxRecDepth 20000 in
theorem mc_155 : mm_cal 155 := ⟨(mm_t1 (w := .initialized RJ13) 10 (by decide +kernel) (by decide +kernel)), (mm_t2 (w := .code yJ13_bitCount_95d88 cJ13_bitCount_95d88 2 (some .int)) 124 (by decide +kernel) (by decide +kernel)), by decide +kernel, ⟨by decide +kernel, by decide +kernel, by decide +kernel⟩, Nat.le_of_ble_eq_true rfl, rfl⟩
theorem mst_155 : mm_stat 155 := (mm_t2 (w := .static yJ13_bitCount_95d88) 123 (by decide +kernel) (by decide +kernel))
set_option maxRecDepth 20000 in
theorem mc_156 : mm_cal 156 := ⟨(mm_t1 (w := .initialized RJ7) 11 (by decide +kernel) (by decide +kernel)), (mm_t2 (w := .code yJ7_fill_d0a16 cJ7_fill_d0a16 5 none) 216 (by decide +kernel) (by decide +kernel)), by decide +kernel, ⟨by decide +kernel, by decide +kernel, by decide +kernel⟩, Nat.le_of_ble_eq_true rfl, rfl⟩
theorem mst_156 : mm_stat 156 := (mm_t2 (w := .static yJ7_fill_d0a16) 215 (by decide +kernel) (by decide +kernel))
set_option maxRecDepth 20000 in
theorem mc_157 : mm_cal 157 := ⟨(mm_t1 (w := .initialized RJ7) 11 (by decide +kernel) (by decide +kernel)), (mm_t2 (w := .code yJ7_fill_53178 cJ7_fill_53178 4 none) 181 (by decide +kernel) (by decide +kernel)), by decide +kernel, ⟨by decide +kernel, by decide +kernel, by decide +kernel⟩, Nat.le_of_ble_eq_true rfl, rfl⟩
theorem mst_157 : mm_stat 157 := (mm_t2 (w := .static yJ7_fill_53178) 180 (by decide +kernel) (by decide +kernel))
def mm_Pv (o : Nat) (e : Nat × Nat) : Prop := Cond.methodLink (mm_nm o) e.1 (mm_M e.2).2.1 ∈ mm_TB ∧ mm_cal e.2 ∧ mm_inst e.2
def mm_Pj (o k : Nat) (n : MethodName) : Prop := Cond.methodLink (mm_nm o) k n ∈ mm_TB
def mm_Ps (o : Nat) (e : Nat × Nat) : Prop := (e.2 < 1000 → Cond.methodLink (mm_nm o) e.1 (mm_M e.2).2.1 ∈ mm_TB ∧ mm_cal e.2 ∧ mm_stat e.2) ∧ (e.2 = 1000 → mm_Pj o e.1 Lib.Math.max.name) ∧ (e.2 = 1001 → mm_Pj o e.1 Lib.Math.min.name) ∧ (e.2 = 1002 → mm_Pj o e.1 Lib.Math.abs.name) ∧ (e.2 = 1003 → mm_Pj o e.1 arraycopyName)
theorem mv_0 : ∀ e ∈ mm_vT_0, mm_Pv 0 e := fun _ h => absurd h List.not_mem_nil
set_option maxRecDepth 20000 in
theorem mv_1_e0 : mm_Pv 1 (13, 5) := ⟨(mm_t2 (w := .methodLink RX1 13 yX1_ofTwo) 108 (by decide +kernel) (by decide +kernel)), mc_5, mi_5⟩
set_option maxRecDepth 20000 in
theorem mv_1_e1 : mm_Pv 1 (32, 1) := ⟨(mm_t2 (w := .methodLink RX1 32 yX0_reach) 112 (by decide +kernel) (by decide +kernel)), mc_1, mi_1⟩
set_option maxRecDepth 20000 in
theorem mv_1_e2 : mm_Pv 1 (36, 11) := ⟨(mm_t2 (w := .methodLink RX1 36 yX2_lasts) 113 (by decide +kernel) (by decide +kernel)), mc_11, mi_11⟩
set_option maxRecDepth 20000 in
theorem mv_1_e3 : mm_Pv 1 (41, 12) := ⟨(mm_t2 (w := .methodLink RX1 41 yX2_ringAt) 114 (by decide +kernel) (by decide +kernel)), mc_12, mi_12⟩
set_option maxRecDepth 20000 in
theorem mv_1_e4 : mm_Pv 1 (45, 14) := ⟨(mm_t2 (w := .methodLink RX1 45 yX2_lesserBeside) 115 (by decide +kernel) (by decide +kernel)), mc_14, mi_14⟩
theorem mv_1 : ∀ e ∈ mm_vT_1, mm_Pv 1 e := List.forall_mem_cons.mpr ⟨mv_1_e0, List.forall_mem_cons.mpr ⟨mv_1_e1, List.forall_mem_cons.mpr ⟨mv_1_e2, List.forall_mem_cons.mpr ⟨mv_1_e3, List.forall_mem_cons.mpr ⟨mv_1_e4, fun _ h => absurd h List.not_mem_nil⟩⟩⟩⟩⟩
set_option maxRecDepth 20000 in
theorem mv_2_e0 : mm_Pv 2 (33, 7) := ⟨(mm_t2 (w := .methodLink RX2 33 yX2_turnTo) 12 (by decide +kernel) (by decide +kernel)), mc_7, mi_7⟩
set_option maxRecDepth 20000 in
theorem mv_2_e1 : mm_Pv 2 (43, 9) := ⟨(mm_t2 (w := .methodLink RX2 43 yX2_isWater) 40 (by decide +kernel) (by decide +kernel)), mc_9, mi_9⟩
set_option maxRecDepth 20000 in
theorem mv_2_e2 : mm_Pv 2 (47, 11) := ⟨(mm_t2 (w := .methodLink RX2 47 yX2_lasts) 41 (by decide +kernel) (by decide +kernel)), mc_11, mi_11⟩
set_option maxRecDepth 20000 in
theorem mv_2_e3 : mm_Pv 2 (51, 13) := ⟨(mm_t2 (w := .methodLink RX2 51 yX2_spread) 45 (by decide +kernel) (by decide +kernel)), mc_13, mi_13⟩
set_option maxRecDepth 20000 in
theorem mv_2_e4 : mm_Pv 2 (60, 8) := ⟨(mm_t2 (w := .methodLink RX2 60 yX2_has) 99 (by decide +kernel) (by decide +kernel)), mc_8, mi_8⟩
theorem mv_2 : ∀ e ∈ mm_vT_2, mm_Pv 2 e := List.forall_mem_cons.mpr ⟨mv_2_e0, List.forall_mem_cons.mpr ⟨mv_2_e1, List.forall_mem_cons.mpr ⟨mv_2_e2, List.forall_mem_cons.mpr ⟨mv_2_e3, List.forall_mem_cons.mpr ⟨mv_2_e4, fun _ h => absurd h List.not_mem_nil⟩⟩⟩⟩⟩
set_option maxRecDepth 20000 in
theorem mv_3_e0 : mm_Pv 3 (26, 17) := ⟨(mm_t1 (w := .methodLink RX3 26 yX3_goesOn) 236 (by decide +kernel) (by decide +kernel)), mc_17, mi_17⟩
set_option maxRecDepth 20000 in
theorem mv_3_e1 : mm_Pv 3 (30, 16) := ⟨(mm_t2 (w := .methodLink RX3 30 yX3_end) 0 (by decide +kernel) (by decide +kernel)), mc_16, mi_16⟩
set_option maxRecDepth 20000 in
theorem mv_3_e2 : mm_Pv 3 (34, 18) := ⟨(mm_t2 (w := .methodLink RX3 34 yX3_goesOnInRows) 4 (by decide +kernel) (by decide +kernel)), mc_18, mi_18⟩
theorem mv_3 : ∀ e ∈ mm_vT_3, mm_Pv 3 e := List.forall_mem_cons.mpr ⟨mv_3_e0, List.forall_mem_cons.mpr ⟨mv_3_e1, List.forall_mem_cons.mpr ⟨mv_3_e2, fun _ h => absurd h List.not_mem_nil⟩⟩⟩
theorem mv_4 : ∀ e ∈ mm_vT_4, mm_Pv 4 e := fun _ h => absurd h List.not_mem_nil
set_option maxRecDepth 20000 in
theorem mv_5_e0 : mm_Pv 5 (35, 23) := ⟨(mm_t2 (w := .methodLink RX5 35 yX5_forgetPlan) 141 (by decide +kernel) (by decide +kernel)), mc_23, mi_23⟩
set_option maxRecDepth 20000 in
theorem mv_5_e1 : mm_Pv 5 (38, 25) := ⟨(mm_t2 (w := .methodLink RX5 38 yX5_learnPair) 142 (by decide +kernel) (by decide +kernel)), mc_25, mi_25⟩
set_option maxRecDepth 20000 in
theorem mv_5_e2 : mm_Pv 5 (47, 1) := ⟨(mm_t2 (w := .methodLink RX5 47 yX0_reach) 146 (by decide +kernel) (by decide +kernel)), mc_1, mi_1⟩
set_option maxRecDepth 20000 in
theorem mv_5_e3 : mm_Pv 5 (51, 11) := ⟨(mm_t2 (w := .methodLink RX5 51 yX2_lasts) 147 (by decide +kernel) (by decide +kernel)), mc_11, mi_11⟩
set_option maxRecDepth 20000 in
theorem mv_5_e4 : mm_Pv 5 (57, 5) := ⟨(mm_t2 (w := .methodLink RX5 57 yX1_ofTwo) 148 (by decide +kernel) (by decide +kernel)), mc_5, mi_5⟩
set_option maxRecDepth 20000 in
theorem mv_5_e5 : mm_Pv 5 (81, 31) := ⟨(mm_t2 (w := .methodLink RX5 81 yX5_widestPair) 201 (by decide +kernel) (by decide +kernel)), mc_31, mi_31⟩
set_option maxRecDepth 20000 in
theorem mv_5_e6 : mm_Pv 5 (106, 26) := ⟨(mm_t2 (w := .methodLink RX5 106 yX5_leastGap) 205 (by decide +kernel) (by decide +kernel)), mc_26, mi_26⟩
set_option maxRecDepth 20000 in
theorem mv_5_e7 : mm_Pv 5 (84, 33) := ⟨(mm_t2 (w := .methodLink RX5 84 yX5_canThrow) 210 (by decide +kernel) (by decide +kernel)), mc_33, mi_33⟩
set_option maxRecDepth 20000 in
theorem mv_5_e8 : mm_Pv 5 (122, 34) := ⟨(mm_t2 (w := .methodLink RX5 122 yX5_weightIn) 217 (by decide +kernel) (by decide +kernel)), mc_34, mi_34⟩
set_option maxRecDepth 20000 in
theorem mv_5_e9 : mm_Pv 5 (103, 35) := ⟨(mm_t2 (w := .methodLink RX5 103 yX5_canPlace) 222 (by decide +kernel) (by decide +kernel)), mc_35, mi_35⟩
set_option maxRecDepth 20000 in
theorem mv_5_e10 : mm_Pv 5 (125, 36) := ⟨(mm_t2 (w := .methodLink RX5 125 yX5_tightest) 226 (by decide +kernel) (by decide +kernel)), mc_36, mi_36⟩
set_option maxRecDepth 20000 in
theorem mv_5_e11 : mm_Pv 5 (99, 37) := ⟨(mm_t2 (w := .methodLink RX5 99 yX5_leavesRoom) 230 (by decide +kernel) (by decide +kernel)), mc_37, mi_37⟩
set_option maxRecDepth 20000 in
theorem mv_5_e12 : mm_Pv 5 (91, 30) := ⟨(mm_t2 (w := .methodLink RX5 91 yX5_firstThatWillDo) 234 (by decide +kernel) (by decide +kernel)), mc_30, mi_30⟩
set_option maxRecDepth 20000 in
theorem mv_5_e13 : mm_Pv 5 (69, 28) := ⟨(mm_t3 (w := .methodLink RX5 69 yX5_meetsOneAhead) 6 (by decide +kernel) (by decide +kernel)), mc_28, mi_28⟩
theorem mv_5 : ∀ e ∈ mm_vT_5, mm_Pv 5 e := List.forall_mem_cons.mpr ⟨mv_5_e0, List.forall_mem_cons.mpr ⟨mv_5_e1, List.forall_mem_cons.mpr ⟨mv_5_e2, List.forall_mem_cons.mpr ⟨mv_5_e3, List.forall_mem_cons.mpr ⟨mv_5_e4, List.forall_mem_cons.mpr ⟨mv_5_e5, List.forall_mem_cons.mpr ⟨mv_5_e6, List.forall_mem_cons.mpr ⟨mv_5_e7, List.forall_mem_cons.mpr ⟨mv_5_e8, List.forall_mem_cons.mpr ⟨mv_5_e9, List.forall_mem_cons.mpr ⟨mv_5_e10, List.forall_mem_cons.mpr ⟨mv_5_e11, List.forall_mem_cons.mpr ⟨mv_5_e12, List.forall_mem_cons.mpr ⟨mv_5_e13, fun _ h => absurd h List.not_mem_nil⟩⟩⟩⟩⟩⟩⟩⟩⟩⟩⟩⟩⟩⟩
set_option maxRecDepth 20000 in
theorem mv_6_e0 : mm_Pv 6 (79, 20) := ⟨(mm_t1 (w := .methodLink RX6 79 yX4_isOfAnother) 220 (by decide +kernel) (by decide +kernel)), mc_20, mi_20⟩
set_option maxRecDepth 20000 in
theorem mv_6_e1 : mm_Pv 6 (82, 70) := ⟨(mm_t1 (w := .methodLink RX6 82 yX6_faulty) 224 (by decide +kernel) (by decide +kernel)), mc_70, mi_70⟩
set_option maxRecDepth 20000 in
theorem mv_6_e2 : mm_Pv 6 (90, 21) := ⟨(mm_t1 (w := .methodLink RX6 90 yX4_hasCells) 228 (by decide +kernel) (by decide +kernel)), mc_21, mi_21⟩
set_option maxRecDepth 20000 in
theorem mv_6_e3 : mm_Pv 6 (94, 15) := ⟨(mm_t1 (w := .methodLink RX6 94 yX3_read) 232 (by decide +kernel) (by decide +kernel)), mc_15, mi_15⟩
set_option maxRecDepth 20000 in
theorem mv_6_e4 : mm_Pv 6 (108, 6) := ⟨(mm_t2 (w := .methodLink RX6 108 yX2_begin) 8 (by decide +kernel) (by decide +kernel)), mc_6, mi_6⟩
set_option maxRecDepth 20000 in
theorem mv_6_e5 : mm_Pv 6 (115, 23) := ⟨(mm_t2 (w := .methodLink RX6 115 yX5_forgetPlan) 16 (by decide +kernel) (by decide +kernel)), mc_23, mi_23⟩
set_option maxRecDepth 20000 in
theorem mv_6_e6 : mm_Pv 6 (121, 8) := ⟨(mm_t2 (w := .methodLink RX6 121 yX2_has) 24 (by decide +kernel) (by decide +kernel)), mc_8, mi_8⟩
set_option maxRecDepth 20000 in
theorem mv_6_e7 : mm_Pv 6 (124, 9) := ⟨(mm_t2 (w := .methodLink RX6 124 yX2_isWater) 28 (by decide +kernel) (by decide +kernel)), mc_9, mi_9⟩
set_option maxRecDepth 20000 in
theorem mv_6_e8 : mm_Pv 6 (127, 10) := ⟨(mm_t2 (w := .methodLink RX6 127 yX2_steps) 36 (by decide +kernel) (by decide +kernel)), mc_10, mi_10⟩
set_option maxRecDepth 20000 in
theorem mv_6_e9 : mm_Pv 6 (137, 2) := ⟨(mm_t2 (w := .methodLink RX6 137 yX0_add) 63 (by decide +kernel) (by decide +kernel)), mc_2, mi_2⟩
set_option maxRecDepth 20000 in
theorem mv_6_e10 : mm_Pv 6 (141, 0) := ⟨(mm_t2 (w := .methodLink RX6 141 yX0_has) 71 (by decide +kernel) (by decide +kernel)), mc_0, mi_0⟩
set_option maxRecDepth 20000 in
theorem mv_6_e11 : mm_Pv 6 (151, 1) := ⟨(mm_t2 (w := .methodLink RX6 151 yX0_reach) 75 (by decide +kernel) (by decide +kernel)), mc_1, mi_1⟩
set_option maxRecDepth 20000 in
theorem mv_6_e12 : mm_Pv 6 (154, 11) := ⟨(mm_t2 (w := .methodLink RX6 154 yX2_lasts) 81 (by decide +kernel) (by decide +kernel)), mc_11, mi_11⟩
set_option maxRecDepth 20000 in
theorem mv_6_e13 : mm_Pv 6 (157, 3) := ⟨(mm_t2 (w := .methodLink RX6 157 yX0_takeBack) 86 (by decide +kernel) (by decide +kernel)), mc_3, mi_3⟩
set_option maxRecDepth 20000 in
theorem mv_6_e14 : mm_Pv 6 (162, 12) := ⟨(mm_t2 (w := .methodLink RX6 162 yX2_ringAt) 95 (by decide +kernel) (by decide +kernel)), mc_12, mi_12⟩
set_option maxRecDepth 20000 in
theorem mv_6_e15 : mm_Pv 6 (166, 4) := ⟨(mm_t2 (w := .methodLink RX6 166 yX1_ofStones) 104 (by decide +kernel) (by decide +kernel)), mc_4, mi_4⟩
set_option maxRecDepth 20000 in
theorem mv_6_e16 : mm_Pv 6 (176, 24) := ⟨(mm_t2 (w := .methodLink RX6 176 yX5_learn) 137 (by decide +kernel) (by decide +kernel)), mc_24, mi_24⟩
set_option maxRecDepth 20000 in
theorem mv_6_e17 : mm_Pv 6 (180, 26) := ⟨(mm_t2 (w := .methodLink RX6 180 yX5_leastGap) 161 (by decide +kernel) (by decide +kernel)), mc_26, mi_26⟩
set_option maxRecDepth 20000 in
theorem mv_6_e18 : mm_Pv 6 (183, 79) := ⟨(mm_t2 (w := .methodLink RX6 183 yX6_mostTogether) 171 (by decide +kernel) (by decide +kernel)), mc_79, mi_79⟩
set_option maxRecDepth 20000 in
theorem mv_6_e19 : mm_Pv 6 (263, 80) := ⟨(mm_t2 (w := .methodLink RX6 263 yX6_findClashes) 175 (by decide +kernel) (by decide +kernel)), mc_80, mi_80⟩
set_option maxRecDepth 20000 in
theorem mv_6_e20 : mm_Pv 6 (275, 5) := ⟨(mm_t2 (w := .methodLink RX6 275 yX1_ofTwo) 182 (by decide +kernel) (by decide +kernel)), mc_5, mi_5⟩
set_option maxRecDepth 20000 in
theorem mv_6_e21 : mm_Pv 6 (266, 81) := ⟨(mm_t2 (w := .methodLink RX6 266 yX6_isPeaceful) 189 (by decide +kernel) (by decide +kernel)), mc_81, mi_81⟩
set_option maxRecDepth 20000 in
theorem mv_6_e22 : mm_Pv 6 (187, 29) := ⟨(mm_t2 (w := .methodLink RX6 187 yX5_makePlan) 197 (by decide +kernel) (by decide +kernel)), mc_29, mi_29⟩
set_option maxRecDepth 20000 in
theorem mv_6_e23 : mm_Pv 6 (196, 27) := ⟨(mm_t3 (w := .methodLink RX6 196 yX5_throwInTurn) 2 (by decide +kernel) (by decide +kernel)), mc_27, mi_27⟩
set_option maxRecDepth 20000 in
theorem mv_6_e24 : mm_Pv 6 (200, 32) := ⟨(mm_t3 (w := .methodLink RX6 200 yX5_mostBy) 17 (by decide +kernel) (by decide +kernel)), mc_32, mi_32⟩
set_option maxRecDepth 20000 in
theorem mv_6_e25 : mm_Pv 6 (203, 76) := ⟨(mm_t3 (w := .methodLink RX6 203 yX6_fitsInCell) 34 (by decide +kernel) (by decide +kernel)), mc_76, mi_76⟩
set_option maxRecDepth 20000 in
theorem mv_6_e26 : mm_Pv 6 (206, 77) := ⟨(mm_t3 (w := .methodLink RX6 206 yX6_firstFit) 38 (by decide +kernel) (by decide +kernel)), mc_77, mi_77⟩
set_option maxRecDepth 20000 in
theorem mv_6_e27 : mm_Pv 6 (214, 78) := ⟨(mm_t3 (w := .methodLink RX6 214 yX6_mostTogetherIfDug) 47 (by decide +kernel) (by decide +kernel)), mc_78, mi_78⟩
set_option maxRecDepth 20000 in
theorem mv_6_e28 : mm_Pv 6 (259, 7) := ⟨(mm_t3 (w := .methodLink RX6 259 yX2_turnTo) 51 (by decide +kernel) (by decide +kernel)), mc_7, mi_7⟩
set_option maxRecDepth 20000 in
theorem mv_6_e29 : mm_Pv 6 (217, 19) := ⟨(mm_t3 (w := .methodLink RX6 217 yX4_renew) 56 (by decide +kernel) (by decide +kernel)), mc_19, mi_19⟩
set_option maxRecDepth 20000 in
theorem mv_6_e30 : mm_Pv 6 (221, 22) := ⟨(mm_t3 (w := .methodLink RX6 221 yX4_take) 69 (by decide +kernel) (by decide +kernel)), mc_22, mi_22⟩
set_option maxRecDepth 20000 in
theorem mv_6_e31 : mm_Pv 6 (236, 85) := ⟨(mm_t3 (w := .methodLink RX6 236 yX6_grainTells) 88 (by decide +kernel) (by decide +kernel)), mc_85, mi_85⟩
set_option maxRecDepth 20000 in
theorem mv_6_e32 : mm_Pv 6 (279, 82) := ⟨(mm_t3 (w := .methodLink RX6 279 yX6_leave) 92 (by decide +kernel) (by decide +kernel)), mc_82, mi_82⟩
set_option maxRecDepth 20000 in
theorem mv_6_e33 : mm_Pv 6 (239, 84) := ⟨(mm_t3 (w := .methodLink RX6 239 yX6_pebbleTells) 96 (by decide +kernel) (by decide +kernel)), mc_84, mi_84⟩
set_option maxRecDepth 20000 in
theorem mv_6_e34 : mm_Pv 6 (242, 83) := ⟨(mm_t3 (w := .methodLink RX6 242 yX6_stoneTells) 100 (by decide +kernel) (by decide +kernel)), mc_83, mi_83⟩
set_option maxRecDepth 20000 in
theorem mv_6_e35 : mm_Pv 6 (245, 87) := ⟨(mm_t3 (w := .methodLink RX6 245 yX6_grainMakes) 108 (by decide +kernel) (by decide +kernel)), mc_87, mi_87⟩
set_option maxRecDepth 20000 in
theorem mv_6_e36 : mm_Pv 6 (248, 86) := ⟨(mm_t3 (w := .methodLink RX6 248 yX6_lentMakes) 112 (by decide +kernel) (by decide +kernel)), mc_86, mi_86⟩
theorem mv_6 : ∀ e ∈ mm_vT_6, mm_Pv 6 e := List.forall_mem_cons.mpr ⟨mv_6_e0, List.forall_mem_cons.mpr ⟨mv_6_e1, List.forall_mem_cons.mpr ⟨mv_6_e2, List.forall_mem_cons.mpr ⟨mv_6_e3, List.forall_mem_cons.mpr ⟨mv_6_e4, List.forall_mem_cons.mpr ⟨mv_6_e5, List.forall_mem_cons.mpr ⟨mv_6_e6, List.forall_mem_cons.mpr ⟨mv_6_e7, List.forall_mem_cons.mpr ⟨mv_6_e8, List.forall_mem_cons.mpr ⟨mv_6_e9, List.forall_mem_cons.mpr ⟨mv_6_e10, List.forall_mem_cons.mpr ⟨mv_6_e11, List.forall_mem_cons.mpr ⟨mv_6_e12, List.forall_mem_cons.mpr ⟨mv_6_e13, List.forall_mem_cons.mpr ⟨mv_6_e14, List.forall_mem_cons.mpr ⟨mv_6_e15, List.forall_mem_cons.mpr ⟨mv_6_e16, List.forall_mem_cons.mpr ⟨mv_6_e17, List.forall_mem_cons.mpr ⟨mv_6_e18, List.forall_mem_cons.mpr ⟨mv_6_e19, List.forall_mem_cons.mpr ⟨mv_6_e20, List.forall_mem_cons.mpr ⟨mv_6_e21, List.forall_mem_cons.mpr ⟨mv_6_e22, List.forall_mem_cons.mpr ⟨mv_6_e23, List.forall_mem_cons.mpr ⟨mv_6_e24, List.forall_mem_cons.mpr ⟨mv_6_e25, List.forall_mem_cons.mpr ⟨mv_6_e26, List.forall_mem_cons.mpr ⟨mv_6_e27, List.forall_mem_cons.mpr ⟨mv_6_e28, List.forall_mem_cons.mpr ⟨mv_6_e29, List.forall_mem_cons.mpr ⟨mv_6_e30, List.forall_mem_cons.mpr ⟨mv_6_e31, List.forall_mem_cons.mpr ⟨mv_6_e32, List.forall_mem_cons.mpr ⟨mv_6_e33, List.forall_mem_cons.mpr ⟨mv_6_e34, List.forall_mem_cons.mpr ⟨mv_6_e35, List.forall_mem_cons.mpr ⟨mv_6_e36, fun _ h => absurd h List.not_mem_nil⟩⟩⟩⟩⟩⟩⟩⟩⟩⟩⟩⟩⟩⟩⟩⟩⟩⟩⟩⟩⟩⟩⟩⟩⟩⟩⟩⟩⟩⟩⟩⟩⟩⟩⟩⟩⟩
set_option maxRecDepth 20000 in
theorem mv_7_e0 : mm_Pv 7 (86, 93) := ⟨(mm_t3 (w := .methodLink RX7 86 yX7_against) 237 (by decide +kernel) (by decide +kernel)), mc_93, mi_93⟩
set_option maxRecDepth 20000 in
theorem mv_7_e1 : mm_Pv 7 (90, 88) := ⟨(mm_t4 (w := .methodLink RX7 90 yX7_fails) 1 (by decide +kernel) (by decide +kernel)), mc_88, mi_88⟩
set_option maxRecDepth 20000 in
theorem mv_7_e2 : mm_Pv 7 (94, 98) := ⟨(mm_t4 (w := .methodLink RX7 94 yX7_readPond) 5 (by decide +kernel) (by decide +kernel)), mc_98, mi_98⟩
set_option maxRecDepth 20000 in
theorem mv_7_e3 : mm_Pv 7 (115, 96) := ⟨(mm_t4 (w := .methodLink RX7 115 yX7_digit) 9 (by decide +kernel) (by decide +kernel)), mc_96, mi_96⟩
set_option maxRecDepth 20000 in
theorem mv_7_e4 : mm_Pv 7 (72, 94) := ⟨(mm_t4 (w := .methodLink RX7 72 yX7_all) 13 (by decide +kernel) (by decide +kernel)), mc_94, mi_94⟩
set_option maxRecDepth 20000 in
theorem mv_7_e5 : mm_Pv 7 (103, 101) := ⟨(mm_t4 (w := .methodLink RX7 103 yX7_layWays) 17 (by decide +kernel) (by decide +kernel)), mc_101, mi_101⟩
set_option maxRecDepth 20000 in
theorem mv_7_e6 : mm_Pv 7 (119, 102) := ⟨(mm_t4 (w := .methodLink RX7 119 yX7_goOn) 21 (by decide +kernel) (by decide +kernel)), mc_102, mi_102⟩
set_option maxRecDepth 20000 in
theorem mv_7_e7 : mm_Pv 7 (123, 100) := ⟨(mm_t4 (w := .methodLink RX7 123 yX7_way) 25 (by decide +kernel) (by decide +kernel)), mc_100, mi_100⟩
set_option maxRecDepth 20000 in
theorem mv_7_e8 : mm_Pv 7 (126, 99) := ⟨(mm_t4 (w := .methodLink RX7 126 yX7_beside) 29 (by decide +kernel) (by decide +kernel)), mc_99, mi_99⟩
set_option maxRecDepth 20000 in
theorem mv_7_e9 : mm_Pv 7 (129, 95) := ⟨(mm_t4 (w := .methodLink RX7 129 yX7_isCell) 37 (by decide +kernel) (by decide +kernel)), mc_95, mi_95⟩
set_option maxRecDepth 20000 in
theorem mv_7_e10 : mm_Pv 7 (135, 107) := ⟨(mm_t4 (w := .methodLink RX7 135 yX7_isStone) 53 (by decide +kernel) (by decide +kernel)), mc_107, mi_107⟩
set_option maxRecDepth 20000 in
theorem mv_7_e11 : mm_Pv 7 (138, 109) := ⟨(mm_t4 (w := .methodLink RX7 138 yX7_overAt) 57 (by decide +kernel) (by decide +kernel)), mc_109, mi_109⟩
set_option maxRecDepth 20000 in
theorem mv_7_e12 : mm_Pv 7 (141, 106) := ⟨(mm_t4 (w := .methodLink RX7 141 yX7_comes) 73 (by decide +kernel) (by decide +kernel)), mc_106, mi_106⟩
set_option maxRecDepth 20000 in
theorem mv_7_e13 : mm_Pv 7 (162, 114) := ⟨(mm_t4 (w := .methodLink RX7 162 yX7_findMeet) 81 (by decide +kernel) (by decide +kernel)), mc_114, mi_114⟩
set_option maxRecDepth 20000 in
theorem mv_7_e14 : mm_Pv 7 (155, 115) := ⟨(mm_t4 (w := .methodLink RX7 155 yX7_isThere) 85 (by decide +kernel) (by decide +kernel)), mc_115, mi_115⟩
set_option maxRecDepth 20000 in
theorem mv_7_e15 : mm_Pv 7 (158, 113) := ⟨(mm_t4 (w := .methodLink RX7 158 yX7_offer) 89 (by decide +kernel) (by decide +kernel)), mc_113, mi_113⟩
set_option maxRecDepth 20000 in
theorem mv_7_e16 : mm_Pv 7 (165, 118) := ⟨(mm_t4 (w := .methodLink RX7 165 yX7_isWish) 105 (by decide +kernel) (by decide +kernel)), mc_118, mi_118⟩
set_option maxRecDepth 20000 in
theorem mv_7_e17 : mm_Pv 7 (176, 124) := ⟨(mm_t4 (w := .methodLink RX7 176 yX7_layMeets) 117 (by decide +kernel) (by decide +kernel)), mc_124, mi_124⟩
set_option maxRecDepth 20000 in
theorem mv_7_e18 : mm_Pv 7 (168, 125) := ⟨(mm_t4 (w := .methodLink RX7 168 yX7_layMeetsAt) 121 (by decide +kernel) (by decide +kernel)), mc_125, mi_125⟩
set_option maxRecDepth 20000 in
theorem mv_7_e19 : mm_Pv 7 (172, 122) := ⟨(mm_t4 (w := .methodLink RX7 172 yX7_isWithin) 125 (by decide +kernel) (by decide +kernel)), mc_122, mi_122⟩
set_option maxRecDepth 20000 in
theorem mv_7_e20 : mm_Pv 7 (179, 123) := ⟨(mm_t4 (w := .methodLink RX7 179 yX7_meetBy) 129 (by decide +kernel) (by decide +kernel)), mc_123, mi_123⟩
set_option maxRecDepth 20000 in
theorem mv_7_e21 : mm_Pv 7 (188, 129) := ⟨(mm_t4 (w := .methodLink RX7 188 yX7_mostAtOnce) 137 (by decide +kernel) (by decide +kernel)), mc_129, mi_129⟩
set_option maxRecDepth 20000 in
theorem mv_7_e22 : mm_Pv 7 (185, 128) := ⟨(mm_t4 (w := .methodLink RX7 185 yX7_mayAtOnce) 144 (by decide +kernel) (by decide +kernel)), mc_128, mi_128⟩
set_option maxRecDepth 20000 in
theorem mv_7_e23 : mm_Pv 7 (197, 133) := ⟨(mm_t4 (w := .methodLink RX7 197 yX7_find) 152 (by decide +kernel) (by decide +kernel)), mc_133, mi_133⟩
set_option maxRecDepth 20000 in
theorem mv_7_e24 : mm_Pv 7 (191, 131) := ⟨(mm_t4 (w := .methodLink RX7 191 yX7_mayBe) 156 (by decide +kernel) (by decide +kernel)), mc_131, mi_131⟩
set_option maxRecDepth 20000 in
theorem mv_7_e25 : mm_Pv 7 (194, 132) := ⟨(mm_t4 (w := .methodLink RX7 194 yX7_mayGoOn) 160 (by decide +kernel) (by decide +kernel)), mc_132, mi_132⟩
set_option maxRecDepth 20000 in
theorem mv_7_e26 : mm_Pv 7 (200, 139) := ⟨(mm_t4 (w := .methodLink RX7 200 yX7_doesFit) 184 (by decide +kernel) (by decide +kernel)), mc_139, mi_139⟩
set_option maxRecDepth 20000 in
theorem mv_7_e27 : mm_Pv 7 (203, 89) := ⟨(mm_t4 (w := .methodLink RX7 203 yX7_lost) 208 (by decide +kernel) (by decide +kernel)), mc_89, mi_89⟩
set_option maxRecDepth 20000 in
theorem mv_7_e28 : mm_Pv 7 (210, 147) := ⟨(mm_t4 (w := .methodLink RX7 210 yX7_begins) 220 (by decide +kernel) (by decide +kernel)), mc_147, mi_147⟩
theorem mv_7 : ∀ e ∈ mm_vT_7, mm_Pv 7 e := List.forall_mem_cons.mpr ⟨mv_7_e0, List.forall_mem_cons.mpr ⟨mv_7_e1, List.forall_mem_cons.mpr ⟨mv_7_e2, List.forall_mem_cons.mpr ⟨mv_7_e3, List.forall_mem_cons.mpr ⟨mv_7_e4, List.forall_mem_cons.mpr ⟨mv_7_e5, List.forall_mem_cons.mpr ⟨mv_7_e6, List.forall_mem_cons.mpr ⟨mv_7_e7, List.forall_mem_cons.mpr ⟨mv_7_e8, List.forall_mem_cons.mpr ⟨mv_7_e9, List.forall_mem_cons.mpr ⟨mv_7_e10, List.forall_mem_cons.mpr ⟨mv_7_e11, List.forall_mem_cons.mpr ⟨mv_7_e12, List.forall_mem_cons.mpr ⟨mv_7_e13, List.forall_mem_cons.mpr ⟨mv_7_e14, List.forall_mem_cons.mpr ⟨mv_7_e15, List.forall_mem_cons.mpr ⟨mv_7_e16, List.forall_mem_cons.mpr ⟨mv_7_e17, List.forall_mem_cons.mpr ⟨mv_7_e18, List.forall_mem_cons.mpr ⟨mv_7_e19, List.forall_mem_cons.mpr ⟨mv_7_e20, List.forall_mem_cons.mpr ⟨mv_7_e21, List.forall_mem_cons.mpr ⟨mv_7_e22, List.forall_mem_cons.mpr ⟨mv_7_e23, List.forall_mem_cons.mpr ⟨mv_7_e24, List.forall_mem_cons.mpr ⟨mv_7_e25, List.forall_mem_cons.mpr ⟨mv_7_e26, List.forall_mem_cons.mpr ⟨mv_7_e27, List.forall_mem_cons.mpr ⟨mv_7_e28, fun _ h => absurd h List.not_mem_nil⟩⟩⟩⟩⟩⟩⟩⟩⟩⟩⟩⟩⟩⟩⟩⟩⟩⟩⟩⟩⟩⟩⟩⟩⟩⟩⟩⟩⟩
set_option maxRecDepth 20000 in
theorem mv_8_e0 : mm_Pv 8 (13, 38) := ⟨(mm_t1 (w := .methodLink RL 13 yX6_pond) 210 (by decide +kernel) (by decide +kernel)), mc_38, mi_38⟩
set_option maxRecDepth 20000 in
theorem mv_8_e1 : mm_Pv 8 (18, 39) := ⟨(mm_t2 (w := .methodLink RL 18 yX6_water) 20 (by decide +kernel) (by decide +kernel)), mc_39, mi_39⟩
set_option maxRecDepth 20000 in
theorem mv_8_e2 : mm_Pv 8 (23, 40) := ⟨(mm_t2 (w := .methodLink RL 23 yX6_far) 32 (by decide +kernel) (by decide +kernel)), mc_40, mi_40⟩
set_option maxRecDepth 20000 in
theorem mv_8_e3 : mm_Pv 8 (28, 41) := ⟨(mm_t2 (w := .methodLink RL 28 yX6_stone) 53 (by decide +kernel) (by decide +kernel)), mc_41, mi_41⟩
set_option maxRecDepth 20000 in
theorem mv_8_e4 : mm_Pv 8 (33, 42) := ⟨(mm_t2 (w := .methodLink RL 33 yX6_ofStone) 67 (by decide +kernel) (by decide +kernel)), mc_42, mi_42⟩
set_option maxRecDepth 20000 in
theorem mv_8_e5 : mm_Pv 8 (37, 43) := ⟨(mm_t2 (w := .methodLink RL 37 yX6_back) 82 (by decide +kernel) (by decide +kernel)), mc_43, mi_43⟩
set_option maxRecDepth 20000 in
theorem mv_8_e6 : mm_Pv 8 (41, 44) := ⟨(mm_t2 (w := .methodLink RL 41 yX6_ring) 90 (by decide +kernel) (by decide +kernel)), mc_44, mi_44⟩
set_option maxRecDepth 20000 in
theorem mv_8_e7 : mm_Pv 8 (46, 45) := ⟨(mm_t2 (w := .methodLink RL 46 yX6_meet) 100 (by decide +kernel) (by decide +kernel)), mc_45, mi_45⟩
set_option maxRecDepth 20000 in
theorem mv_8_e8 : mm_Pv 8 (50, 46) := ⟨(mm_t2 (w := .methodLink RL 50 yX6_first) 129 (by decide +kernel) (by decide +kernel)), mc_46, mi_46⟩
set_option maxRecDepth 20000 in
theorem mv_8_e9 : mm_Pv 8 (54, 47) := ⟨(mm_t2 (w := .methodLink RL 54 yX6_wish) 133 (by decide +kernel) (by decide +kernel)), mc_47, mi_47⟩
set_option maxRecDepth 20000 in
theorem mv_8_e10 : mm_Pv 8 (58, 48) := ⟨(mm_t2 (w := .methodLink RL 58 yX6_ofWish) 149 (by decide +kernel) (by decide +kernel)), mc_48, mi_48⟩
set_option maxRecDepth 20000 in
theorem mv_8_e11 : mm_Pv 8 (62, 49) := ⟨(mm_t2 (w := .methodLink RL 62 yX6_drop) 153 (by decide +kernel) (by decide +kernel)), mc_49, mi_49⟩
set_option maxRecDepth 20000 in
theorem mv_8_e12 : mm_Pv 8 (66, 50) := ⟨(mm_t2 (w := .methodLink RL 66 yX6_apart) 157 (by decide +kernel) (by decide +kernel)), mc_50, mi_50⟩
set_option maxRecDepth 20000 in
theorem mv_8_e13 : mm_Pv 8 (70, 51) := ⟨(mm_t2 (w := .methodLink RL 70 yX6_atOnce) 167 (by decide +kernel) (by decide +kernel)), mc_51, mi_51⟩
set_option maxRecDepth 20000 in
theorem mv_8_e14 : mm_Pv 8 (75, 52) := ⟨(mm_t2 (w := .methodLink RL 75 yX6_soonest) 193 (by decide +kernel) (by decide +kernel)), mc_52, mi_52⟩
set_option maxRecDepth 20000 in
theorem mv_8_e15 : mm_Pv 8 (79, 53) := ⟨(mm_t2 (w := .methodLink RL 79 yX6_alone) 238 (by decide +kernel) (by decide +kernel)), mc_53, mi_53⟩
set_option maxRecDepth 20000 in
theorem mv_8_e16 : mm_Pv 8 (83, 54) := ⟨(mm_t3 (w := .methodLink RL 83 yX6_sunset) 13 (by decide +kernel) (by decide +kernel)), mc_54, mi_54⟩
set_option maxRecDepth 20000 in
theorem mv_8_e17 : mm_Pv 8 (87, 55) := ⟨(mm_t3 (w := .methodLink RL 87 yX6_reed) 22 (by decide +kernel) (by decide +kernel)), mc_55, mi_55⟩
set_option maxRecDepth 20000 in
theorem mv_8_e18 : mm_Pv 8 (91, 56) := ⟨(mm_t3 (w := .methodLink RL 91 yX6_pull) 26 (by decide +kernel) (by decide +kernel)), mc_56, mi_56⟩
set_option maxRecDepth 20000 in
theorem mv_8_e19 : mm_Pv 8 (95, 57) := ⟨(mm_t3 (w := .methodLink RL 95 yX6_fits) 30 (by decide +kernel) (by decide +kernel)), mc_57, mi_57⟩
set_option maxRecDepth 20000 in
theorem mv_8_e20 : mm_Pv 8 (99, 58) := ⟨(mm_t3 (w := .methodLink RL 99 yX6_dig) 43 (by decide +kernel) (by decide +kernel)), mc_58, mi_58⟩
set_option maxRecDepth 20000 in
theorem mv_8_e21 : mm_Pv 8 (103, 59) := ⟨(mm_t3 (w := .methodLink RL 103 yX6_sheet) 52 (by decide +kernel) (by decide +kernel)), mc_59, mi_59⟩
set_option maxRecDepth 20000 in
theorem mv_8_e22 : mm_Pv 8 (107, 60) := ⟨(mm_t3 (w := .methodLink RL 107 yX6_lose) 61 (by decide +kernel) (by decide +kernel)), mc_60, mi_60⟩
set_option maxRecDepth 20000 in
theorem mv_8_e23 : mm_Pv 8 (111, 61) := ⟨(mm_t3 (w := .methodLink RL 111 yX6_put) 65 (by decide +kernel) (by decide +kernel)), mc_61, mi_61⟩
set_option maxRecDepth 20000 in
theorem mv_8_e24 : mm_Pv 8 (115, 62) := ⟨(mm_t3 (w := .methodLink RL 115 yX6_cell) 73 (by decide +kernel) (by decide +kernel)), mc_62, mi_62⟩
set_option maxRecDepth 20000 in
theorem mv_8_e25 : mm_Pv 8 (120, 63) := ⟨(mm_t3 (w := .methodLink RL 120 yX6_copy) 77 (by decide +kernel) (by decide +kernel)), mc_63, mi_63⟩
set_option maxRecDepth 20000 in
theorem mv_8_e26 : mm_Pv 8 (125, 64) := ⟨(mm_t3 (w := .methodLink RL 125 yX6_tell) 84 (by decide +kernel) (by decide +kernel)), mc_64, mi_64⟩
set_option maxRecDepth 20000 in
theorem mv_8_e27 : mm_Pv 8 (129, 65) := ⟨(mm_t3 (w := .methodLink RL 129 yX6_make) 104 (by decide +kernel) (by decide +kernel)), mc_65, mi_65⟩
set_option maxRecDepth 20000 in
theorem mv_8_e28 : mm_Pv 8 (133, 66) := ⟨(mm_t3 (w := .methodLink RL 133 yX6_as) 116 (by decide +kernel) (by decide +kernel)), mc_66, mi_66⟩
set_option maxRecDepth 20000 in
theorem mv_8_e29 : mm_Pv 8 (137, 67) := ⟨(mm_t3 (w := .methodLink RL 137 yX6_trace) 120 (by decide +kernel) (by decide +kernel)), mc_67, mi_67⟩
set_option maxRecDepth 20000 in
theorem mv_8_e30 : mm_Pv 8 (141, 68) := ⟨(mm_t3 (w := .methodLink RL 141 yX6_fault) 124 (by decide +kernel) (by decide +kernel)), mc_68, mi_68⟩
set_option maxRecDepth 20000 in
theorem mv_8_e31 : mm_Pv 8 (145, 69) := ⟨(mm_t3 (w := .methodLink RL 145 yX6_many) 128 (by decide +kernel) (by decide +kernel)), mc_69, mi_69⟩
set_option maxRecDepth 20000 in
theorem mv_8_e32 : mm_Pv 8 (17, 97) := ⟨(mm_t3 (w := .methodLink RL 17 yX7_pond) 224 (by decide +kernel) (by decide +kernel)), mc_97, mi_97⟩
set_option maxRecDepth 20000 in
theorem mv_8_e33 : mm_Pv 8 (22, 103) := ⟨(mm_t4 (w := .methodLink RL 22 yX7_water) 33 (by decide +kernel) (by decide +kernel)), mc_103, mi_103⟩
set_option maxRecDepth 20000 in
theorem mv_8_e34 : mm_Pv 8 (27, 104) := ⟨(mm_t4 (w := .methodLink RL 27 yX7_far) 41 (by decide +kernel) (by decide +kernel)), mc_104, mi_104⟩
set_option maxRecDepth 20000 in
theorem mv_8_e35 : mm_Pv 8 (32, 108) := ⟨(mm_t4 (w := .methodLink RL 32 yX7_stone) 45 (by decide +kernel) (by decide +kernel)), mc_108, mi_108⟩
set_option maxRecDepth 20000 in
theorem mv_8_e36 : mm_Pv 8 (36, 110) := ⟨(mm_t4 (w := .methodLink RL 36 yX7_ofStone) 49 (by decide +kernel) (by decide +kernel)), mc_110, mi_110⟩
set_option maxRecDepth 20000 in
theorem mv_8_e37 : mm_Pv 8 (40, 111) := ⟨(mm_t4 (w := .methodLink RL 40 yX7_back) 64 (by decide +kernel) (by decide +kernel)), mc_111, mi_111⟩
set_option maxRecDepth 20000 in
theorem mv_8_e38 : mm_Pv 8 (45, 112) := ⟨(mm_t4 (w := .methodLink RL 45 yX7_ring) 68 (by decide +kernel) (by decide +kernel)), mc_112, mi_112⟩
set_option maxRecDepth 20000 in
theorem mv_8_e39 : mm_Pv 8 (49, 116) := ⟨(mm_t4 (w := .methodLink RL 49 yX7_meet) 77 (by decide +kernel) (by decide +kernel)), mc_116, mi_116⟩
set_option maxRecDepth 20000 in
theorem mv_8_e40 : mm_Pv 8 (53, 117) := ⟨(mm_t4 (w := .methodLink RL 53 yX7_first) 93 (by decide +kernel) (by decide +kernel)), mc_117, mi_117⟩
set_option maxRecDepth 20000 in
theorem mv_8_e41 : mm_Pv 8 (57, 119) := ⟨(mm_t4 (w := .methodLink RL 57 yX7_wish) 97 (by decide +kernel) (by decide +kernel)), mc_119, mi_119⟩
set_option maxRecDepth 20000 in
theorem mv_8_e42 : mm_Pv 8 (61, 120) := ⟨(mm_t4 (w := .methodLink RL 61 yX7_ofWish) 101 (by decide +kernel) (by decide +kernel)), mc_120, mi_120⟩
set_option maxRecDepth 20000 in
theorem mv_8_e43 : mm_Pv 8 (65, 121) := ⟨(mm_t4 (w := .methodLink RL 65 yX7_drop) 109 (by decide +kernel) (by decide +kernel)), mc_121, mi_121⟩
set_option maxRecDepth 20000 in
theorem mv_8_e44 : mm_Pv 8 (69, 126) := ⟨(mm_t4 (w := .methodLink RL 69 yX7_apart) 113 (by decide +kernel) (by decide +kernel)), mc_126, mi_126⟩
set_option maxRecDepth 20000 in
theorem mv_8_e45 : mm_Pv 8 (74, 130) := ⟨(mm_t4 (w := .methodLink RL 74 yX7_atOnce) 133 (by decide +kernel) (by decide +kernel)), mc_130, mi_130⟩
set_option maxRecDepth 20000 in
theorem mv_8_e46 : mm_Pv 8 (78, 134) := ⟨(mm_t4 (w := .methodLink RL 78 yX7_soonest) 148 (by decide +kernel) (by decide +kernel)), mc_134, mi_134⟩
set_option maxRecDepth 20000 in
theorem mv_8_e47 : mm_Pv 8 (82, 135) := ⟨(mm_t4 (w := .methodLink RL 82 yX7_alone) 164 (by decide +kernel) (by decide +kernel)), mc_135, mi_135⟩
set_option maxRecDepth 20000 in
theorem mv_8_e48 : mm_Pv 8 (86, 136) := ⟨(mm_t4 (w := .methodLink RL 86 yX7_sunset) 168 (by decide +kernel) (by decide +kernel)), mc_136, mi_136⟩
set_option maxRecDepth 20000 in
theorem mv_8_e49 : mm_Pv 8 (90, 137) := ⟨(mm_t4 (w := .methodLink RL 90 yX7_reed) 172 (by decide +kernel) (by decide +kernel)), mc_137, mi_137⟩
set_option maxRecDepth 20000 in
theorem mv_8_e50 : mm_Pv 8 (94, 138) := ⟨(mm_t4 (w := .methodLink RL 94 yX7_pull) 176 (by decide +kernel) (by decide +kernel)), mc_138, mi_138⟩
set_option maxRecDepth 20000 in
theorem mv_8_e51 : mm_Pv 8 (98, 140) := ⟨(mm_t4 (w := .methodLink RL 98 yX7_fits) 180 (by decide +kernel) (by decide +kernel)), mc_140, mi_140⟩
set_option maxRecDepth 20000 in
theorem mv_8_e52 : mm_Pv 8 (102, 141) := ⟨(mm_t4 (w := .methodLink RL 102 yX7_dig) 188 (by decide +kernel) (by decide +kernel)), mc_141, mi_141⟩
set_option maxRecDepth 20000 in
theorem mv_8_e53 : mm_Pv 8 (106, 142) := ⟨(mm_t4 (w := .methodLink RL 106 yX7_sheet) 192 (by decide +kernel) (by decide +kernel)), mc_142, mi_142⟩
set_option maxRecDepth 20000 in
theorem mv_8_e54 : mm_Pv 8 (110, 143) := ⟨(mm_t4 (w := .methodLink RL 110 yX7_lose) 196 (by decide +kernel) (by decide +kernel)), mc_143, mi_143⟩
set_option maxRecDepth 20000 in
theorem mv_8_e55 : mm_Pv 8 (114, 144) := ⟨(mm_t4 (w := .methodLink RL 114 yX7_put) 200 (by decide +kernel) (by decide +kernel)), mc_144, mi_144⟩
set_option maxRecDepth 20000 in
theorem mv_8_e56 : mm_Pv 8 (119, 145) := ⟨(mm_t4 (w := .methodLink RL 119 yX7_cell) 204 (by decide +kernel) (by decide +kernel)), mc_145, mi_145⟩
set_option maxRecDepth 20000 in
theorem mv_8_e57 : mm_Pv 8 (124, 146) := ⟨(mm_t4 (w := .methodLink RL 124 yX7_copy) 212 (by decide +kernel) (by decide +kernel)), mc_146, mi_146⟩
set_option maxRecDepth 20000 in
theorem mv_8_e58 : mm_Pv 8 (128, 148) := ⟨(mm_t4 (w := .methodLink RL 128 yX7_tell) 216 (by decide +kernel) (by decide +kernel)), mc_148, mi_148⟩
set_option maxRecDepth 20000 in
theorem mv_8_e59 : mm_Pv 8 (132, 149) := ⟨(mm_t4 (w := .methodLink RL 132 yX7_make) 224 (by decide +kernel) (by decide +kernel)), mc_149, mi_149⟩
set_option maxRecDepth 20000 in
theorem mv_8_e60 : mm_Pv 8 (136, 150) := ⟨(mm_t4 (w := .methodLink RL 136 yX7_as) 228 (by decide +kernel) (by decide +kernel)), mc_150, mi_150⟩
set_option maxRecDepth 20000 in
theorem mv_8_e61 : mm_Pv 8 (140, 151) := ⟨(mm_t4 (w := .methodLink RL 140 yX7_trace) 232 (by decide +kernel) (by decide +kernel)), mc_151, mi_151⟩
set_option maxRecDepth 20000 in
theorem mv_8_e62 : mm_Pv 8 (144, 152) := ⟨(mm_t4 (w := .methodLink RL 144 yX7_fault) 236 (by decide +kernel) (by decide +kernel)), mc_152, mi_152⟩
set_option maxRecDepth 20000 in
theorem mv_8_e63 : mm_Pv 8 (148, 153) := ⟨(mm_t5 (w := .methodLink RL 148 yX7_many) 0 (by decide +kernel) (by decide +kernel)), mc_153, mi_153⟩
theorem mv_8 : ∀ e ∈ mm_vT_8, mm_Pv 8 e := List.forall_mem_cons.mpr ⟨mv_8_e0, List.forall_mem_cons.mpr ⟨mv_8_e1, List.forall_mem_cons.mpr ⟨mv_8_e2, List.forall_mem_cons.mpr ⟨mv_8_e3, List.forall_mem_cons.mpr ⟨mv_8_e4, List.forall_mem_cons.mpr ⟨mv_8_e5, List.forall_mem_cons.mpr ⟨mv_8_e6, List.forall_mem_cons.mpr ⟨mv_8_e7, List.forall_mem_cons.mpr ⟨mv_8_e8, List.forall_mem_cons.mpr ⟨mv_8_e9, List.forall_mem_cons.mpr ⟨mv_8_e10, List.forall_mem_cons.mpr ⟨mv_8_e11, List.forall_mem_cons.mpr ⟨mv_8_e12, List.forall_mem_cons.mpr ⟨mv_8_e13, List.forall_mem_cons.mpr ⟨mv_8_e14, List.forall_mem_cons.mpr ⟨mv_8_e15, List.forall_mem_cons.mpr ⟨mv_8_e16, List.forall_mem_cons.mpr ⟨mv_8_e17, List.forall_mem_cons.mpr ⟨mv_8_e18, List.forall_mem_cons.mpr ⟨mv_8_e19, List.forall_mem_cons.mpr ⟨mv_8_e20, List.forall_mem_cons.mpr ⟨mv_8_e21, List.forall_mem_cons.mpr ⟨mv_8_e22, List.forall_mem_cons.mpr ⟨mv_8_e23, List.forall_mem_cons.mpr ⟨mv_8_e24, List.forall_mem_cons.mpr ⟨mv_8_e25, List.forall_mem_cons.mpr ⟨mv_8_e26, List.forall_mem_cons.mpr ⟨mv_8_e27, List.forall_mem_cons.mpr ⟨mv_8_e28, List.forall_mem_cons.mpr ⟨mv_8_e29, List.forall_mem_cons.mpr ⟨mv_8_e30, List.forall_mem_cons.mpr ⟨mv_8_e31, List.forall_mem_cons.mpr ⟨mv_8_e32, List.forall_mem_cons.mpr ⟨mv_8_e33, List.forall_mem_cons.mpr ⟨mv_8_e34, List.forall_mem_cons.mpr ⟨mv_8_e35, List.forall_mem_cons.mpr ⟨mv_8_e36, List.forall_mem_cons.mpr ⟨mv_8_e37, List.forall_mem_cons.mpr ⟨mv_8_e38, List.forall_mem_cons.mpr ⟨mv_8_e39, List.forall_mem_cons.mpr ⟨mv_8_e40, List.forall_mem_cons.mpr ⟨mv_8_e41, List.forall_mem_cons.mpr ⟨mv_8_e42, List.forall_mem_cons.mpr ⟨mv_8_e43, List.forall_mem_cons.mpr ⟨mv_8_e44, List.forall_mem_cons.mpr ⟨mv_8_e45, List.forall_mem_cons.mpr ⟨mv_8_e46, List.forall_mem_cons.mpr ⟨mv_8_e47, List.forall_mem_cons.mpr ⟨mv_8_e48, List.forall_mem_cons.mpr ⟨mv_8_e49, List.forall_mem_cons.mpr ⟨mv_8_e50, List.forall_mem_cons.mpr ⟨mv_8_e51, List.forall_mem_cons.mpr ⟨mv_8_e52, List.forall_mem_cons.mpr ⟨mv_8_e53, List.forall_mem_cons.mpr ⟨mv_8_e54, List.forall_mem_cons.mpr ⟨mv_8_e55, List.forall_mem_cons.mpr ⟨mv_8_e56, List.forall_mem_cons.mpr ⟨mv_8_e57, List.forall_mem_cons.mpr ⟨mv_8_e58, List.forall_mem_cons.mpr ⟨mv_8_e59, List.forall_mem_cons.mpr ⟨mv_8_e60, List.forall_mem_cons.mpr ⟨mv_8_e61, List.forall_mem_cons.mpr ⟨mv_8_e62, List.forall_mem_cons.mpr ⟨mv_8_e63, fun _ h => absurd h List.not_mem_nil⟩⟩⟩⟩⟩⟩⟩⟩⟩⟩⟩⟩⟩⟩⟩⟩⟩⟩⟩⟩⟩⟩⟩⟩⟩⟩⟩⟩⟩⟩⟩⟩⟩⟩⟩⟩⟩⟩⟩⟩⟩⟩⟩⟩⟩⟩⟩⟩⟩⟩⟩⟩⟩⟩⟩⟩⟩⟩⟩⟩⟩⟩⟩⟩
theorem mv_9 : ∀ e ∈ mm_vT_9, mm_Pv 9 e := fun _ h => absurd h List.not_mem_nil
theorem mv_10 : ∀ e ∈ mm_vT_10, mm_Pv 10 e := fun _ h => absurd h List.not_mem_nil
theorem mv_11 : ∀ e ∈ mm_vT_11, mm_Pv 11 e := fun _ h => absurd h List.not_mem_nil
theorem ms_0 : ∀ e ∈ mm_sT_0, mm_Ps 0 e := fun _ h => absurd h List.not_mem_nil
set_option maxRecDepth 20000 in
theorem ms_1_e0 : mm_Ps 1 (23, 1001) := ⟨fun h => absurd h (by decide), fun h => absurd h (by decide), fun _ => (mm_t2 (w := .methodLink RX1 23 Lib.Math.min.name) 128 (by decide +kernel) (by decide +kernel)), fun h => absurd h (by decide), fun h => absurd h (by decide)⟩
theorem ms_1 : ∀ e ∈ mm_sT_1, mm_Ps 1 e := List.forall_mem_cons.mpr ⟨ms_1_e0, fun _ h => absurd h List.not_mem_nil⟩
set_option maxRecDepth 20000 in
theorem ms_2_e0 : mm_Ps 2 (55, 1001) := ⟨fun h => absurd h (by decide), fun h => absurd h (by decide), fun _ => (mm_t2 (w := .methodLink RX2 55 Lib.Math.min.name) 50 (by decide +kernel) (by decide +kernel)), fun h => absurd h (by decide), fun h => absurd h (by decide)⟩
theorem ms_2 : ∀ e ∈ mm_sT_2, mm_Ps 2 e := List.forall_mem_cons.mpr ⟨ms_2_e0, fun _ h => absurd h List.not_mem_nil⟩
theorem ms_3 : ∀ e ∈ mm_sT_3, mm_Ps 3 e := fun _ h => absurd h List.not_mem_nil
set_option maxRecDepth 20000 in
theorem ms_4_e0 : mm_Ps 4 (24, 157) := ⟨fun _ => ⟨(mm_t3 (w := .methodLink RX4 24 yJ7_fill_53178) 60 (by decide +kernel) (by decide +kernel)), mc_157, mst_157⟩, fun h => absurd h (by decide), fun h => absurd h (by decide), fun h => absurd h (by decide), fun h => absurd h (by decide)⟩
theorem ms_4 : ∀ e ∈ mm_sT_4, mm_Ps 4 e := List.forall_mem_cons.mpr ⟨ms_4_e0, fun _ h => absurd h List.not_mem_nil⟩
set_option maxRecDepth 20000 in
theorem ms_5_e0 : mm_Ps 5 (109, 1001) := ⟨fun h => absurd h (by decide), fun h => absurd h (by decide), fun _ => (mm_t2 (w := .methodLink RX5 109 Lib.Math.min.name) 206 (by decide +kernel) (by decide +kernel)), fun h => absurd h (by decide), fun h => absurd h (by decide)⟩
set_option maxRecDepth 20000 in
theorem ms_5_e1 : mm_Ps 5 (73, 1000) := ⟨fun h => absurd h (by decide), fun _ => (mm_t2 (w := .methodLink RX5 73 Lib.Math.max.name) 207 (by decide +kernel) (by decide +kernel)), fun h => absurd h (by decide), fun h => absurd h (by decide), fun h => absurd h (by decide)⟩
set_option maxRecDepth 20000 in
theorem ms_5_e2 : mm_Ps 5 (116, 156) := ⟨fun _ => ⟨(mm_t2 (w := .methodLink RX5 116 yJ7_fill_d0a16) 214 (by decide +kernel) (by decide +kernel)), mc_156, mst_156⟩, fun h => absurd h (by decide), fun h => absurd h (by decide), fun h => absurd h (by decide), fun h => absurd h (by decide)⟩
set_option maxRecDepth 20000 in
theorem ms_5_e3 : mm_Ps 5 (94, 155) := ⟨fun _ => ⟨(mm_t2 (w := .methodLink RX5 94 yJ13_bitCount_95d88) 221 (by decide +kernel) (by decide +kernel)), mc_155, mst_155⟩, fun h => absurd h (by decide), fun h => absurd h (by decide), fun h => absurd h (by decide), fun h => absurd h (by decide)⟩
set_option maxRecDepth 20000 in
theorem ms_5_e4 : mm_Ps 5 (78, 1002) := ⟨fun h => absurd h (by decide), fun h => absurd h (by decide), fun h => absurd h (by decide), fun _ => (mm_t3 (w := .methodLink RX5 78 Lib.Math.abs.name) 10 (by decide +kernel) (by decide +kernel)), fun h => absurd h (by decide)⟩
set_option maxRecDepth 20000 in
theorem ms_5_e5 : mm_Ps 5 (112, 154) := ⟨fun _ => ⟨(mm_t3 (w := .methodLink RX5 112 yJ6_bitCount_0f7a4) 21 (by decide +kernel) (by decide +kernel)), mc_154, mst_154⟩, fun h => absurd h (by decide), fun h => absurd h (by decide), fun h => absurd h (by decide), fun h => absurd h (by decide)⟩
theorem ms_5 : ∀ e ∈ mm_sT_5, mm_Ps 5 e := List.forall_mem_cons.mpr ⟨ms_5_e0, List.forall_mem_cons.mpr ⟨ms_5_e1, List.forall_mem_cons.mpr ⟨ms_5_e2, List.forall_mem_cons.mpr ⟨ms_5_e3, List.forall_mem_cons.mpr ⟨ms_5_e4, List.forall_mem_cons.mpr ⟨ms_5_e5, fun _ h => absurd h List.not_mem_nil⟩⟩⟩⟩⟩⟩
set_option maxRecDepth 20000 in
theorem ms_6_e0 : mm_Ps 6 (72, 71) := ⟨fun _ => ⟨(mm_t1 (w := .methodLink RX6 72 yX6_isSheet) 214 (by decide +kernel) (by decide +kernel)), mc_71, mst_71⟩, fun h => absurd h (by decide), fun h => absurd h (by decide), fun h => absurd h (by decide), fun h => absurd h (by decide)⟩
set_option maxRecDepth 20000 in
theorem ms_6_e1 : mm_Ps 6 (76, 72) := ⟨fun _ => ⟨(mm_t1 (w := .methodLink RX6 76 yX6_isSort) 217 (by decide +kernel) (by decide +kernel)), mc_72, mst_72⟩, fun h => absurd h (by decide), fun h => absurd h (by decide), fun h => absurd h (by decide), fun h => absurd h (by decide)⟩
set_option maxRecDepth 20000 in
theorem ms_6_e2 : mm_Ps 6 (131, 73) := ⟨fun _ => ⟨(mm_t2 (w := .methodLink RX6 131 yX6_isKind) 57 (by decide +kernel) (by decide +kernel)), mc_73, mst_73⟩, fun h => absurd h (by decide), fun h => absurd h (by decide), fun h => absurd h (by decide), fun h => absurd h (by decide)⟩
set_option maxRecDepth 20000 in
theorem ms_6_e3 : mm_Ps 6 (134, 74) := ⟨fun _ => ⟨(mm_t2 (w := .methodLink RX6 134 yX6_isMinute) 60 (by decide +kernel) (by decide +kernel)), mc_74, mst_74⟩, fun h => absurd h (by decide), fun h => absurd h (by decide), fun h => absurd h (by decide), fun h => absurd h (by decide)⟩
set_option maxRecDepth 20000 in
theorem ms_6_e4 : mm_Ps 6 (252, 155) := ⟨fun _ => ⟨(mm_t2 (w := .methodLink RX6 252 yJ13_bitCount_95d88) 122 (by decide +kernel) (by decide +kernel)), mc_155, mst_155⟩, fun h => absurd h (by decide), fun h => absurd h (by decide), fun h => absurd h (by decide), fun h => absurd h (by decide)⟩
set_option maxRecDepth 20000 in
theorem ms_6_e5 : mm_Ps 6 (269, 157) := ⟨fun _ => ⟨(mm_t2 (w := .methodLink RX6 269 yJ7_fill_53178) 179 (by decide +kernel) (by decide +kernel)), mc_157, mst_157⟩, fun h => absurd h (by decide), fun h => absurd h (by decide), fun h => absurd h (by decide), fun h => absurd h (by decide)⟩
set_option maxRecDepth 20000 in
theorem ms_6_e6 : mm_Ps 6 (209, 154) := ⟨fun _ => ⟨(mm_t2 (w := .methodLink RX6 209 yJ6_bitCount_0f7a4) 183 (by decide +kernel) (by decide +kernel)), mc_154, mst_154⟩, fun h => absurd h (by decide), fun h => absurd h (by decide), fun h => absurd h (by decide), fun h => absurd h (by decide)⟩
set_option maxRecDepth 20000 in
theorem ms_6_e7 : mm_Ps 6 (230, 1003) := ⟨fun h => absurd h (by decide), fun h => absurd h (by decide), fun h => absurd h (by decide), fun h => absurd h (by decide), fun _ => (mm_t3 (w := .methodLink RX6 230 arraycopyName) 81 (by decide +kernel) (by decide +kernel))⟩
theorem ms_6 : ∀ e ∈ mm_sT_6, mm_Ps 6 e := List.forall_mem_cons.mpr ⟨ms_6_e0, List.forall_mem_cons.mpr ⟨ms_6_e1, List.forall_mem_cons.mpr ⟨ms_6_e2, List.forall_mem_cons.mpr ⟨ms_6_e3, List.forall_mem_cons.mpr ⟨ms_6_e4, List.forall_mem_cons.mpr ⟨ms_6_e5, List.forall_mem_cons.mpr ⟨ms_6_e6, List.forall_mem_cons.mpr ⟨ms_6_e7, fun _ h => absurd h List.not_mem_nil⟩⟩⟩⟩⟩⟩⟩⟩
set_option maxRecDepth 20000 in
theorem ms_7_e0 : mm_Ps 7 (79, 91) := ⟨fun _ => ⟨(mm_t3 (w := .methodLink RX7 79 yX7_isSheet) 228 (by decide +kernel) (by decide +kernel)), mc_91, mst_91⟩, fun h => absurd h (by decide), fun h => absurd h (by decide), fun h => absurd h (by decide), fun h => absurd h (by decide)⟩
set_option maxRecDepth 20000 in
theorem ms_7_e1 : mm_Ps 7 (62, 90) := ⟨fun _ => ⟨(mm_t3 (w := .methodLink RX7 62 yX7_within) 231 (by decide +kernel) (by decide +kernel)), mc_90, mst_90⟩, fun h => absurd h (by decide), fun h => absurd h (by decide), fun h => absurd h (by decide), fun h => absurd h (by decide)⟩
set_option maxRecDepth 20000 in
theorem ms_7_e2 : mm_Ps 7 (83, 92) := ⟨fun _ => ⟨(mm_t3 (w := .methodLink RX7 83 yX7_isSort) 234 (by decide +kernel) (by decide +kernel)), mc_92, mst_92⟩, fun h => absurd h (by decide), fun h => absurd h (by decide), fun h => absurd h (by decide), fun h => absurd h (by decide)⟩
set_option maxRecDepth 20000 in
theorem ms_7_e3 : mm_Ps 7 (132, 105) := ⟨fun _ => ⟨(mm_t4 (w := .methodLink RX7 132 yX7_reach) 61 (by decide +kernel) (by decide +kernel)), mc_105, mst_105⟩, fun h => absurd h (by decide), fun h => absurd h (by decide), fun h => absurd h (by decide), fun h => absurd h (by decide)⟩
set_option maxRecDepth 20000 in
theorem ms_7_e4 : mm_Ps 7 (182, 127) := ⟨fun _ => ⟨(mm_t4 (w := .methodLink RX7 182 yX7_size) 141 (by decide +kernel) (by decide +kernel)), mc_127, mst_127⟩, fun h => absurd h (by decide), fun h => absurd h (by decide), fun h => absurd h (by decide), fun h => absurd h (by decide)⟩
theorem ms_7 : ∀ e ∈ mm_sT_7, mm_Ps 7 e := List.forall_mem_cons.mpr ⟨ms_7_e0, List.forall_mem_cons.mpr ⟨ms_7_e1, List.forall_mem_cons.mpr ⟨ms_7_e2, List.forall_mem_cons.mpr ⟨ms_7_e3, List.forall_mem_cons.mpr ⟨ms_7_e4, fun _ h => absurd h List.not_mem_nil⟩⟩⟩⟩⟩
theorem ms_8 : ∀ e ∈ mm_sT_8, mm_Ps 8 e := fun _ h => absurd h List.not_mem_nil
theorem ms_9 : ∀ e ∈ mm_sT_9, mm_Ps 9 e := fun _ h => absurd h List.not_mem_nil
theorem ms_10 : ∀ e ∈ mm_sT_10, mm_Ps 10 e := fun _ h => absurd h List.not_mem_nil
theorem ms_11 : ∀ e ∈ mm_sT_11, mm_Ps 11 e := fun _ h => absurd h List.not_mem_nil
def mm_tt (tt : Nat) : FieldType := bif Nat.beq tt 1 then .int else bif Nat.beq tt 2 then .long else .boolean
def mm_Pf (o : Nat) (e : Nat × Nat × Nat × Nat) : Prop := ∃ q : vw_C, mm_K[e.2.1]? = some q ∧ e.2.2.1 < q.2.2 ∧ Cond.fieldLink (mm_nm o) e.1 (q.2.1 e.2.2.1).1 (q.2.1 e.2.2.1).2.1 (q.2.1 e.2.2.1).2.2.1 ∈ mm_TB ∧ (e.2.2.2 = 0 ∨ ((q.2.1 e.2.2.1).2.2.2 = false ∧ parseFieldDescriptor (q.2.1 e.2.2.1).2.2.1 = some (mm_tt e.2.2.2)))
set_option maxRecDepth 20000 in
theorem mf_0_e0 : mm_Pf 0 (9, 0, 0, 0) := ⟨(RX0, TX0, 4), rfl, Nat.le_of_ble_eq_true rfl, (mm_t1 (w := .fieldLink RX0 9 "PondRings$Listing" "kinds" "[I") 107 (by decide +kernel) (by decide +kernel)), Or.inl rfl⟩
set_option maxRecDepth 20000 in
theorem mf_0_e1 : mm_Pf 0 (15, 0, 1, 0) := ⟨(RX0, TX0, 4), rfl, Nat.le_of_ble_eq_true rfl, (mm_t1 (w := .fieldLink RX0 15 "PondRings$Listing" "places" "[I") 109 (by decide +kernel) (by decide +kernel)), Or.inl rfl⟩
set_option maxRecDepth 20000 in
theorem mf_0_e2 : mm_Pf 0 (18, 0, 2, 0) := ⟨(RX0, TX0, 4), rfl, Nat.le_of_ble_eq_true rfl, (mm_t1 (w := .fieldLink RX0 18 "PondRings$Listing" "minutes" "[I") 113 (by decide +kernel) (by decide +kernel)), Or.inl rfl⟩
set_option maxRecDepth 20000 in
theorem mf_0_e3 : mm_Pf 0 (21, 0, 3, 1) := ⟨(RX0, TX0, 4), rfl, Nat.le_of_ble_eq_true rfl, (mm_t1 (w := .fieldLink RX0 21 "PondRings$Listing" "count" "I") 116 (by decide +kernel) (by decide +kernel)), Or.inr ⟨rfl, by decide +kernel⟩⟩
theorem mf_0 : ∀ e ∈ mm_fT_0, mm_Pf 0 e := List.forall_mem_cons.mpr ⟨mf_0_e0, List.forall_mem_cons.mpr ⟨mf_0_e1, List.forall_mem_cons.mpr ⟨mf_0_e2, List.forall_mem_cons.mpr ⟨mf_0_e3, fun _ h => absurd h List.not_mem_nil⟩⟩⟩⟩
set_option maxRecDepth 20000 in
theorem mf_1_e0 : mm_Pf 1 (29, 0, 1, 0) := ⟨(RX0, TX0, 4), rfl, Nat.le_of_ble_eq_true rfl, (mm_t1 (w := .fieldLink RX1 29 "PondRings$Listing" "places" "[I") 110 (by decide +kernel) (by decide +kernel)), Or.inl rfl⟩
set_option maxRecDepth 20000 in
theorem mf_1_e1 : mm_Pf 1 (7, 0, 2, 0) := ⟨(RX0, TX0, 4), rfl, Nat.le_of_ble_eq_true rfl, (mm_t1 (w := .fieldLink RX1 7 "PondRings$Listing" "minutes" "[I") 114 (by decide +kernel) (by decide +kernel)), Or.inl rfl⟩
set_option maxRecDepth 20000 in
theorem mf_1_e2 : mm_Pf 1 (19, 1, 0, 1) := ⟨(RX1, TX1, 2), rfl, Nat.le_of_ble_eq_true rfl, (mm_t1 (w := .fieldLink RX1 19 "PondRings$Meeting" "minute" "I") 133 (by decide +kernel) (by decide +kernel)), Or.inr ⟨rfl, by decide +kernel⟩⟩
set_option maxRecDepth 20000 in
theorem mf_1_e3 : mm_Pf 1 (55, 1, 1, 1) := ⟨(RX1, TX1, 2), rfl, Nat.le_of_ble_eq_true rfl, (mm_t1 (w := .fieldLink RX1 55 "PondRings$Meeting" "place" "I") 135 (by decide +kernel) (by decide +kernel)), Or.inr ⟨rfl, by decide +kernel⟩⟩
theorem mf_1 : ∀ e ∈ mm_fT_1, mm_Pf 1 e := List.forall_mem_cons.mpr ⟨mf_1_e0, List.forall_mem_cons.mpr ⟨mf_1_e1, List.forall_mem_cons.mpr ⟨mf_1_e2, List.forall_mem_cons.mpr ⟨mf_1_e3, fun _ h => absurd h List.not_mem_nil⟩⟩⟩⟩
set_option maxRecDepth 20000 in
theorem mf_2_e0 : mm_Pf 2 (11, 2, 0, 0) := ⟨(RX2, TX2, 8), rfl, Nat.le_of_ble_eq_true rfl, (mm_t1 (w := .fieldLink RX2 11 "PondRings$Pond" "ripples" "[J") 72 (by decide +kernel) (by decide +kernel)), Or.inl rfl⟩
set_option maxRecDepth 20000 in
theorem mf_2_e1 : mm_Pf 2 (15, 2, 1, 0) := ⟨(RX2, TX2, 8), rfl, Nat.le_of_ble_eq_true rfl, (mm_t1 (w := .fieldLink RX2 15 "PondRings$Pond" "depths" "[I") 73 (by decide +kernel) (by decide +kernel)), Or.inl rfl⟩
set_option maxRecDepth 20000 in
theorem mf_2_e2 : mm_Pf 2 (40, 2, 2, 2) := ⟨(RX2, TX2, 8), rfl, Nat.le_of_ble_eq_true rfl, (mm_t1 (w := .fieldLink RX2 40 "PondRings$Pond" "ready" "J") 74 (by decide +kernel) (by decide +kernel)), Or.inr ⟨rfl, by decide +kernel⟩⟩
set_option maxRecDepth 20000 in
theorem mf_2_e3 : mm_Pf 2 (26, 2, 3, 2) := ⟨(RX2, TX2, 8), rfl, Nat.le_of_ble_eq_true rfl, (mm_t1 (w := .fieldLink RX2 26 "PondRings$Pond" "firstColumn" "J") 75 (by decide +kernel) (by decide +kernel)), Or.inr ⟨rfl, by decide +kernel⟩⟩
set_option maxRecDepth 20000 in
theorem mf_2_e4 : mm_Pf 2 (30, 2, 4, 2) := ⟨(RX2, TX2, 8), rfl, Nat.le_of_ble_eq_true rfl, (mm_t1 (w := .fieldLink RX2 30 "PondRings$Pond" "lastColumn" "J") 76 (by decide +kernel) (by decide +kernel)), Or.inr ⟨rfl, by decide +kernel⟩⟩
set_option maxRecDepth 20000 in
theorem mf_2_e5 : mm_Pf 2 (23, 2, 5, 1) := ⟨(RX2, TX2, 8), rfl, Nat.le_of_ble_eq_true rfl, (mm_t1 (w := .fieldLink RX2 23 "PondRings$Pond" "cells" "I") 77 (by decide +kernel) (by decide +kernel)), Or.inr ⟨rfl, by decide +kernel⟩⟩
set_option maxRecDepth 20000 in
theorem mf_2_e6 : mm_Pf 2 (19, 2, 6, 1) := ⟨(RX2, TX2, 8), rfl, Nat.le_of_ble_eq_true rfl, (mm_t1 (w := .fieldLink RX2 19 "PondRings$Pond" "wide" "I") 79 (by decide +kernel) (by decide +kernel)), Or.inr ⟨rfl, by decide +kernel⟩⟩
set_option maxRecDepth 20000 in
theorem mf_2_e7 : mm_Pf 2 (37, 2, 7, 2) := ⟨(RX2, TX2, 8), rfl, Nat.le_of_ble_eq_true rfl, (mm_t1 (w := .fieldLink RX2 37 "PondRings$Pond" "water" "J") 81 (by decide +kernel) (by decide +kernel)), Or.inr ⟨rfl, by decide +kernel⟩⟩
theorem mf_2 : ∀ e ∈ mm_fT_2, mm_Pf 2 e := List.forall_mem_cons.mpr ⟨mf_2_e0, List.forall_mem_cons.mpr ⟨mf_2_e1, List.forall_mem_cons.mpr ⟨mf_2_e2, List.forall_mem_cons.mpr ⟨mf_2_e3, List.forall_mem_cons.mpr ⟨mf_2_e4, List.forall_mem_cons.mpr ⟨mf_2_e5, List.forall_mem_cons.mpr ⟨mf_2_e6, List.forall_mem_cons.mpr ⟨mf_2_e7, fun _ h => absurd h List.not_mem_nil⟩⟩⟩⟩⟩⟩⟩⟩
set_option maxRecDepth 20000 in
theorem mf_3_e0 : mm_Pf 3 (20, 4, 0, 0) := ⟨(RX4, TX4, 4), rfl, Nat.le_of_ble_eq_true rfl, (mm_t1 (w := .fieldLink RX3 20 "PondRings$Sheet" "numbers" "[I") 30 (by decide +kernel) (by decide +kernel)), Or.inl rfl⟩
set_option maxRecDepth 20000 in
theorem mf_3_e1 : mm_Pf 3 (7, 3, 0, 1) := ⟨(RX3, TX3, 3), rfl, Nat.le_of_ble_eq_true rfl, (mm_t1 (w := .fieldLink RX3 7 "PondRings$PondText" "high" "I") 53 (by decide +kernel) (by decide +kernel)), Or.inr ⟨rfl, by decide +kernel⟩⟩
set_option maxRecDepth 20000 in
theorem mf_3_e2 : mm_Pf 3 (13, 3, 1, 1) := ⟨(RX3, TX3, 3), rfl, Nat.le_of_ble_eq_true rfl, (mm_t1 (w := .fieldLink RX3 13 "PondRings$PondText" "wide" "I") 55 (by decide +kernel) (by decide +kernel)), Or.inr ⟨rfl, by decide +kernel⟩⟩
set_option maxRecDepth 20000 in
theorem mf_3_e3 : mm_Pf 3 (16, 3, 2, 2) := ⟨(RX3, TX3, 3), rfl, Nat.le_of_ble_eq_true rfl, (mm_t1 (w := .fieldLink RX3 16 "PondRings$PondText" "water" "J") 57 (by decide +kernel) (by decide +kernel)), Or.inr ⟨rfl, by decide +kernel⟩⟩
theorem mf_3 : ∀ e ∈ mm_fT_3, mm_Pf 3 e := List.forall_mem_cons.mpr ⟨mf_3_e0, List.forall_mem_cons.mpr ⟨mf_3_e1, List.forall_mem_cons.mpr ⟨mf_3_e2, List.forall_mem_cons.mpr ⟨mf_3_e3, fun _ h => absurd h List.not_mem_nil⟩⟩⟩⟩
set_option maxRecDepth 20000 in
theorem mf_4_e0 : mm_Pf 4 (9, 4, 0, 0) := ⟨(RX4, TX4, 4), rfl, Nat.le_of_ble_eq_true rfl, (mm_t1 (w := .fieldLink RX4 9 "PondRings$Sheet" "numbers" "[I") 29 (by decide +kernel) (by decide +kernel)), Or.inl rfl⟩
set_option maxRecDepth 20000 in
theorem mf_4_e1 : mm_Pf 4 (13, 4, 1, 3) := ⟨(RX4, TX4, 4), rfl, Nat.le_of_ble_eq_true rfl, (mm_t1 (w := .fieldLink RX4 13 "PondRings$Sheet" "there" "Z") 32 (by decide +kernel) (by decide +kernel)), Or.inr ⟨rfl, by decide +kernel⟩⟩
set_option maxRecDepth 20000 in
theorem mf_4_e2 : mm_Pf 4 (17, 4, 2, 1) := ⟨(RX4, TX4, 4), rfl, Nat.le_of_ble_eq_true rfl, (mm_t1 (w := .fieldLink RX4 17 "PondRings$Sheet" "sort" "I") 34 (by decide +kernel) (by decide +kernel)), Or.inr ⟨rfl, by decide +kernel⟩⟩
set_option maxRecDepth 20000 in
theorem mf_4_e3 : mm_Pf 4 (21, 4, 3, 1) := ⟨(RX4, TX4, 4), rfl, Nat.le_of_ble_eq_true rfl, (mm_t1 (w := .fieldLink RX4 21 "PondRings$Sheet" "length" "I") 36 (by decide +kernel) (by decide +kernel)), Or.inr ⟨rfl, by decide +kernel⟩⟩
theorem mf_4 : ∀ e ∈ mm_fT_4, mm_Pf 4 e := List.forall_mem_cons.mpr ⟨mf_4_e0, List.forall_mem_cons.mpr ⟨mf_4_e1, List.forall_mem_cons.mpr ⟨mf_4_e2, List.forall_mem_cons.mpr ⟨mf_4_e3, fun _ h => absurd h List.not_mem_nil⟩⟩⟩⟩
set_option maxRecDepth 20000 in
theorem mf_5_e0 : mm_Pf 5 (42, 0, 1, 0) := ⟨(RX0, TX0, 4), rfl, Nat.le_of_ble_eq_true rfl, (mm_t1 (w := .fieldLink RX5 42 "PondRings$Listing" "places" "[I") 111 (by decide +kernel) (by decide +kernel)), Or.inl rfl⟩
set_option maxRecDepth 20000 in
theorem mf_5_e1 : mm_Pf 5 (11, 5, 0, 0) := ⟨(RX5, TX5, 8), rfl, Nat.le_of_ble_eq_true rfl, (mm_t1 (w := .fieldLink RX5 11 "PondRings$Timetable" "after" "[J") 148 (by decide +kernel) (by decide +kernel)), Or.inl rfl⟩
set_option maxRecDepth 20000 in
theorem mf_5_e2 : mm_Pf 5 (15, 5, 1, 0) := ⟨(RX5, TX5, 8), rfl, Nat.le_of_ble_eq_true rfl, (mm_t1 (w := .fieldLink RX5 15 "PondRings$Timetable" "before" "[J") 149 (by decide +kernel) (by decide +kernel)), Or.inl rfl⟩
set_option maxRecDepth 20000 in
theorem mf_5_e3 : mm_Pf 5 (18, 5, 2, 0) := ⟨(RX5, TX5, 8), rfl, Nat.le_of_ble_eq_true rfl, (mm_t1 (w := .fieldLink RX5 18 "PondRings$Timetable" "left" "[J") 150 (by decide +kernel) (by decide +kernel)), Or.inl rfl⟩
set_option maxRecDepth 20000 in
theorem mf_5_e4 : mm_Pf 5 (21, 5, 3, 0) := ⟨(RX5, TX5, 8), rfl, Nat.le_of_ble_eq_true rfl, (mm_t1 (w := .fieldLink RX5 21 "PondRings$Timetable" "weights" "[I") 151 (by decide +kernel) (by decide +kernel)), Or.inl rfl⟩
set_option maxRecDepth 20000 in
theorem mf_5_e5 : mm_Pf 5 (31, 5, 4, 3) := ⟨(RX5, TX5, 8), rfl, Nat.le_of_ble_eq_true rfl, (mm_t1 (w := .fieldLink RX5 31 "PondRings$Timetable" "planned" "Z") 152 (by decide +kernel) (by decide +kernel)), Or.inr ⟨rfl, by decide +kernel⟩⟩
set_option maxRecDepth 20000 in
theorem mf_5_e6 : mm_Pf 5 (25, 5, 5, 0) := ⟨(RX5, TX5, 8), rfl, Nat.le_of_ble_eq_true rfl, (mm_t1 (w := .fieldLink RX5 25 "PondRings$Timetable" "minutes" "[I") 153 (by decide +kernel) (by decide +kernel)), Or.inl rfl⟩
set_option maxRecDepth 20000 in
theorem mf_5_e7 : mm_Pf 5 (28, 5, 6, 0) := ⟨(RX5, TX5, 8), rfl, Nat.le_of_ble_eq_true rfl, (mm_t1 (w := .fieldLink RX5 28 "PondRings$Timetable" "plan" "[I") 155 (by decide +kernel) (by decide +kernel)), Or.inl rfl⟩
set_option maxRecDepth 20000 in
theorem mf_5_e8 : mm_Pf 5 (87, 5, 7, 1) := ⟨(RX5, TX5, 8), rfl, Nat.le_of_ble_eq_true rfl, (mm_t1 (w := .fieldLink RX5 87 "PondRings$Timetable" "lastOfPlan" "I") 157 (by decide +kernel) (by decide +kernel)), Or.inr ⟨rfl, by decide +kernel⟩⟩
theorem mf_5 : ∀ e ∈ mm_fT_5, mm_Pf 5 e := List.forall_mem_cons.mpr ⟨mf_5_e0, List.forall_mem_cons.mpr ⟨mf_5_e1, List.forall_mem_cons.mpr ⟨mf_5_e2, List.forall_mem_cons.mpr ⟨mf_5_e3, List.forall_mem_cons.mpr ⟨mf_5_e4, List.forall_mem_cons.mpr ⟨mf_5_e5, List.forall_mem_cons.mpr ⟨mf_5_e6, List.forall_mem_cons.mpr ⟨mf_5_e7, List.forall_mem_cons.mpr ⟨mf_5_e8, fun _ h => absurd h List.not_mem_nil⟩⟩⟩⟩⟩⟩⟩⟩⟩
set_option maxRecDepth 20000 in
theorem mf_6_e0 : mm_Pf 6 (224, 4, 0, 0) := ⟨(RX4, TX4, 4), rfl, Nat.le_of_ble_eq_true rfl, (mm_t1 (w := .fieldLink RX6 224 "PondRings$Sheet" "numbers" "[I") 31 (by decide +kernel) (by decide +kernel)), Or.inl rfl⟩
set_option maxRecDepth 20000 in
theorem mf_6_e1 : mm_Pf 6 (86, 4, 1, 3) := ⟨(RX4, TX4, 4), rfl, Nat.le_of_ble_eq_true rfl, (mm_t1 (w := .fieldLink RX6 86 "PondRings$Sheet" "there" "Z") 33 (by decide +kernel) (by decide +kernel)), Or.inr ⟨rfl, by decide +kernel⟩⟩
set_option maxRecDepth 20000 in
theorem mf_6_e2 : mm_Pf 6 (227, 4, 2, 1) := ⟨(RX4, TX4, 4), rfl, Nat.le_of_ble_eq_true rfl, (mm_t1 (w := .fieldLink RX6 227 "PondRings$Sheet" "sort" "I") 35 (by decide +kernel) (by decide +kernel)), Or.inr ⟨rfl, by decide +kernel⟩⟩
set_option maxRecDepth 20000 in
theorem mf_6_e3 : mm_Pf 6 (98, 3, 0, 1) := ⟨(RX3, TX3, 3), rfl, Nat.le_of_ble_eq_true rfl, (mm_t1 (w := .fieldLink RX6 98 "PondRings$PondText" "high" "I") 54 (by decide +kernel) (by decide +kernel)), Or.inr ⟨rfl, by decide +kernel⟩⟩
set_option maxRecDepth 20000 in
theorem mf_6_e4 : mm_Pf 6 (101, 3, 1, 1) := ⟨(RX3, TX3, 3), rfl, Nat.le_of_ble_eq_true rfl, (mm_t1 (w := .fieldLink RX6 101 "PondRings$PondText" "wide" "I") 56 (by decide +kernel) (by decide +kernel)), Or.inr ⟨rfl, by decide +kernel⟩⟩
set_option maxRecDepth 20000 in
theorem mf_6_e5 : mm_Pf 6 (104, 3, 2, 2) := ⟨(RX3, TX3, 3), rfl, Nat.le_of_ble_eq_true rfl, (mm_t1 (w := .fieldLink RX6 104 "PondRings$PondText" "water" "J") 58 (by decide +kernel) (by decide +kernel)), Or.inr ⟨rfl, by decide +kernel⟩⟩
set_option maxRecDepth 20000 in
theorem mf_6_e6 : mm_Pf 6 (118, 2, 5, 1) := ⟨(RX2, TX2, 8), rfl, Nat.le_of_ble_eq_true rfl, (mm_t1 (w := .fieldLink RX6 118 "PondRings$Pond" "cells" "I") 78 (by decide +kernel) (by decide +kernel)), Or.inr ⟨rfl, by decide +kernel⟩⟩
set_option maxRecDepth 20000 in
theorem mf_6_e7 : mm_Pf 6 (251, 2, 6, 1) := ⟨(RX2, TX2, 8), rfl, Nat.le_of_ble_eq_true rfl, (mm_t1 (w := .fieldLink RX6 251 "PondRings$Pond" "wide" "I") 80 (by decide +kernel) (by decide +kernel)), Or.inr ⟨rfl, by decide +kernel⟩⟩
set_option maxRecDepth 20000 in
theorem mf_6_e8 : mm_Pf 6 (258, 2, 7, 2) := ⟨(RX2, TX2, 8), rfl, Nat.le_of_ble_eq_true rfl, (mm_t1 (w := .fieldLink RX6 258 "PondRings$Pond" "water" "J") 82 (by decide +kernel) (by decide +kernel)), Or.inr ⟨rfl, by decide +kernel⟩⟩
set_option maxRecDepth 20000 in
theorem mf_6_e9 : mm_Pf 6 (142, 0, 0, 0) := ⟨(RX0, TX0, 4), rfl, Nat.le_of_ble_eq_true rfl, (mm_t1 (w := .fieldLink RX6 142 "PondRings$Listing" "kinds" "[I") 108 (by decide +kernel) (by decide +kernel)), Or.inl rfl⟩
set_option maxRecDepth 20000 in
theorem mf_6_e10 : mm_Pf 6 (145, 0, 1, 0) := ⟨(RX0, TX0, 4), rfl, Nat.le_of_ble_eq_true rfl, (mm_t1 (w := .fieldLink RX6 145 "PondRings$Listing" "places" "[I") 112 (by decide +kernel) (by decide +kernel)), Or.inl rfl⟩
set_option maxRecDepth 20000 in
theorem mf_6_e11 : mm_Pf 6 (148, 0, 2, 0) := ⟨(RX0, TX0, 4), rfl, Nat.le_of_ble_eq_true rfl, (mm_t1 (w := .fieldLink RX6 148 "PondRings$Listing" "minutes" "[I") 115 (by decide +kernel) (by decide +kernel)), Or.inl rfl⟩
set_option maxRecDepth 20000 in
theorem mf_6_e12 : mm_Pf 6 (112, 0, 3, 1) := ⟨(RX0, TX0, 4), rfl, Nat.le_of_ble_eq_true rfl, (mm_t1 (w := .fieldLink RX6 112 "PondRings$Listing" "count" "I") 117 (by decide +kernel) (by decide +kernel)), Or.inr ⟨rfl, by decide +kernel⟩⟩
set_option maxRecDepth 20000 in
theorem mf_6_e13 : mm_Pf 6 (170, 1, 0, 1) := ⟨(RX1, TX1, 2), rfl, Nat.le_of_ble_eq_true rfl, (mm_t1 (w := .fieldLink RX6 170 "PondRings$Meeting" "minute" "I") 134 (by decide +kernel) (by decide +kernel)), Or.inr ⟨rfl, by decide +kernel⟩⟩
set_option maxRecDepth 20000 in
theorem mf_6_e14 : mm_Pf 6 (173, 1, 1, 1) := ⟨(RX1, TX1, 2), rfl, Nat.le_of_ble_eq_true rfl, (mm_t1 (w := .fieldLink RX6 173 "PondRings$Meeting" "place" "I") 136 (by decide +kernel) (by decide +kernel)), Or.inr ⟨rfl, by decide +kernel⟩⟩
set_option maxRecDepth 20000 in
theorem mf_6_e15 : mm_Pf 6 (199, 5, 5, 0) := ⟨(RX5, TX5, 8), rfl, Nat.le_of_ble_eq_true rfl, (mm_t1 (w := .fieldLink RX6 199 "PondRings$Timetable" "minutes" "[I") 154 (by decide +kernel) (by decide +kernel)), Or.inl rfl⟩
set_option maxRecDepth 20000 in
theorem mf_6_e16 : mm_Pf 6 (193, 5, 6, 0) := ⟨(RX5, TX5, 8), rfl, Nat.le_of_ble_eq_true rfl, (mm_t1 (w := .fieldLink RX6 193 "PondRings$Timetable" "plan" "[I") 156 (by decide +kernel) (by decide +kernel)), Or.inl rfl⟩
set_option maxRecDepth 20000 in
theorem mf_6_e17 : mm_Pf 6 (190, 5, 7, 1) := ⟨(RX5, TX5, 8), rfl, Nat.le_of_ble_eq_true rfl, (mm_t1 (w := .fieldLink RX6 190 "PondRings$Timetable" "lastOfPlan" "I") 158 (by decide +kernel) (by decide +kernel)), Or.inr ⟨rfl, by decide +kernel⟩⟩
set_option maxRecDepth 20000 in
theorem mf_6_e18 : mm_Pf 6 (13, 6, 0, 0) := ⟨(RX6, TX6, 11), rfl, Nat.le_of_ble_eq_true rfl, (mm_t1 (w := .fieldLink RX6 13 "PondRings" "sheets" "[LPondRings$Sheet;") 176 (by decide +kernel) (by decide +kernel)), Or.inl rfl⟩
set_option maxRecDepth 20000 in
theorem mf_6_e19 : mm_Pf 6 (21, 6, 1, 0) := ⟨(RX6, TX6, 11), rfl, Nat.le_of_ble_eq_true rfl, (mm_t1 (w := .fieldLink RX6 21 "PondRings" "text" "LPondRings$PondText;") 177 (by decide +kernel) (by decide +kernel)), Or.inl rfl⟩
set_option maxRecDepth 20000 in
theorem mf_6_e20 : mm_Pf 6 (28, 6, 2, 0) := ⟨(RX6, TX6, 11), rfl, Nat.le_of_ble_eq_true rfl, (mm_t1 (w := .fieldLink RX6 28 "PondRings" "lake" "LPondRings$Pond;") 178 (by decide +kernel) (by decide +kernel)), Or.inl rfl⟩
set_option maxRecDepth 20000 in
theorem mf_6_e21 : mm_Pf 6 (37, 6, 3, 0) := ⟨(RX6, TX6, 11), rfl, Nat.le_of_ble_eq_true rfl, (mm_t1 (w := .fieldLink RX6 37 "PondRings" "stones" "LPondRings$Listing;") 179 (by decide +kernel) (by decide +kernel)), Or.inl rfl⟩
set_option maxRecDepth 20000 in
theorem mf_6_e22 : mm_Pf 6 (41, 6, 4, 0) := ⟨(RX6, TX6, 11), rfl, Nat.le_of_ble_eq_true rfl, (mm_t1 (w := .fieldLink RX6 41 "PondRings" "wishes" "LPondRings$Listing;") 180 (by decide +kernel) (by decide +kernel)), Or.inl rfl⟩
set_option maxRecDepth 20000 in
theorem mf_6_e23 : mm_Pf 6 (44, 6, 5, 0) := ⟨(RX6, TX6, 11), rfl, Nat.le_of_ble_eq_true rfl, (mm_t1 (w := .fieldLink RX6 44 "PondRings" "reeds" "LPondRings$Listing;") 181 (by decide +kernel) (by decide +kernel)), Or.inl rfl⟩
set_option maxRecDepth 20000 in
theorem mf_6_e24 : mm_Pf 6 (50, 6, 6, 0) := ⟨(RX6, TX6, 11), rfl, Nat.le_of_ble_eq_true rfl, (mm_t1 (w := .fieldLink RX6 50 "PondRings" "meeting" "LPondRings$Meeting;") 182 (by decide +kernel) (by decide +kernel)), Or.inl rfl⟩
set_option maxRecDepth 20000 in
theorem mf_6_e25 : mm_Pf 6 (57, 6, 7, 0) := ⟨(RX6, TX6, 11), rfl, Nat.le_of_ble_eq_true rfl, (mm_t1 (w := .fieldLink RX6 57 "PondRings" "timetable" "LPondRings$Timetable;") 183 (by decide +kernel) (by decide +kernel)), Or.inl rfl⟩
set_option maxRecDepth 20000 in
theorem mf_6_e26 : mm_Pf 6 (61, 6, 8, 0) := ⟨(RX6, TX6, 11), rfl, Nat.le_of_ble_eq_true rfl, (mm_t1 (w := .fieldLink RX6 61 "PondRings" "clashes" "[I") 184 (by decide +kernel) (by decide +kernel)), Or.inl rfl⟩
set_option maxRecDepth 20000 in
theorem mf_6_e27 : mm_Pf 6 (65, 6, 9, 1) := ⟨(RX6, TX6, 11), rfl, Nat.le_of_ble_eq_true rfl, (mm_t1 (w := .fieldLink RX6 65 "PondRings" "traced" "I") 185 (by decide +kernel) (by decide +kernel)), Or.inr ⟨rfl, by decide +kernel⟩⟩
set_option maxRecDepth 20000 in
theorem mf_6_e28 : mm_Pf 6 (69, 6, 10, 1) := ⟨(RX6, TX6, 11), rfl, Nat.le_of_ble_eq_true rfl, (mm_t1 (w := .fieldLink RX6 69 "PondRings" "latestFault" "I") 186 (by decide +kernel) (by decide +kernel)), Or.inr ⟨rfl, by decide +kernel⟩⟩
theorem mf_6 : ∀ e ∈ mm_fT_6, mm_Pf 6 e := List.forall_mem_cons.mpr ⟨mf_6_e0, List.forall_mem_cons.mpr ⟨mf_6_e1, List.forall_mem_cons.mpr ⟨mf_6_e2, List.forall_mem_cons.mpr ⟨mf_6_e3, List.forall_mem_cons.mpr ⟨mf_6_e4, List.forall_mem_cons.mpr ⟨mf_6_e5, List.forall_mem_cons.mpr ⟨mf_6_e6, List.forall_mem_cons.mpr ⟨mf_6_e7, List.forall_mem_cons.mpr ⟨mf_6_e8, List.forall_mem_cons.mpr ⟨mf_6_e9, List.forall_mem_cons.mpr ⟨mf_6_e10, List.forall_mem_cons.mpr ⟨mf_6_e11, List.forall_mem_cons.mpr ⟨mf_6_e12, List.forall_mem_cons.mpr ⟨mf_6_e13, List.forall_mem_cons.mpr ⟨mf_6_e14, List.forall_mem_cons.mpr ⟨mf_6_e15, List.forall_mem_cons.mpr ⟨mf_6_e16, List.forall_mem_cons.mpr ⟨mf_6_e17, List.forall_mem_cons.mpr ⟨mf_6_e18, List.forall_mem_cons.mpr ⟨mf_6_e19, List.forall_mem_cons.mpr ⟨mf_6_e20, List.forall_mem_cons.mpr ⟨mf_6_e21, List.forall_mem_cons.mpr ⟨mf_6_e22, List.forall_mem_cons.mpr ⟨mf_6_e23, List.forall_mem_cons.mpr ⟨mf_6_e24, List.forall_mem_cons.mpr ⟨mf_6_e25, List.forall_mem_cons.mpr ⟨mf_6_e26, List.forall_mem_cons.mpr ⟨mf_6_e27, List.forall_mem_cons.mpr ⟨mf_6_e28, fun _ h => absurd h List.not_mem_nil⟩⟩⟩⟩⟩⟩⟩⟩⟩⟩⟩⟩⟩⟩⟩⟩⟩⟩⟩⟩⟩⟩⟩⟩⟩⟩⟩⟩⟩
set_option maxRecDepth 20000 in
theorem mf_7_e0 : mm_Pf 7 (56, 7, 0, 1) := ⟨(RX7, TX7, 28), rfl, Nat.le_of_ble_eq_true rfl, (mm_t3 (w := .fieldLink RX7 56 "PondRingsModel" "fault" "I") 138 (by decide +kernel) (by decide +kernel)), Or.inr ⟨rfl, by decide +kernel⟩⟩
set_option maxRecDepth 20000 in
theorem mf_7_e1 : mm_Pf 7 (207, 7, 1, 1) := ⟨(RX7, TX7, 28), rfl, Nat.le_of_ble_eq_true rfl, (mm_t3 (w := .fieldLink RX7 207 "PondRingsModel" "trace" "I") 139 (by decide +kernel) (by decide +kernel)), Or.inr ⟨rfl, by decide +kernel⟩⟩
set_option maxRecDepth 20000 in
theorem mf_7_e2 : mm_Pf 7 (9, 7, 2, 0) := ⟨(RX7, TX7, 28), rfl, Nat.le_of_ble_eq_true rfl, (mm_t3 (w := .fieldLink RX7 9 "PondRingsModel" "sorts" "[I") 140 (by decide +kernel) (by decide +kernel)), Or.inl rfl⟩
set_option maxRecDepth 20000 in
theorem mf_7_e3 : mm_Pf 7 (13, 7, 3, 0) := ⟨(RX7, TX7, 28), rfl, Nat.le_of_ble_eq_true rfl, (mm_t3 (w := .fieldLink RX7 13 "PondRingsModel" "sheetLong" "[I") 141 (by decide +kernel) (by decide +kernel)), Or.inl rfl⟩
set_option maxRecDepth 20000 in
theorem mf_7_e4 : mm_Pf 7 (16, 7, 4, 0) := ⟨(RX7, TX7, 28), rfl, Nat.le_of_ble_eq_true rfl, (mm_t3 (w := .fieldLink RX7 16 "PondRingsModel" "cells" "[I") 142 (by decide +kernel) (by decide +kernel)), Or.inl rfl⟩
set_option maxRecDepth 20000 in
theorem mf_7_e5 : mm_Pf 7 (66, 7, 5, 1) := ⟨(RX7, TX7, 28), rfl, Nat.le_of_ble_eq_true rfl, (mm_t3 (w := .fieldLink RX7 66 "PondRingsModel" "high" "I") 143 (by decide +kernel) (by decide +kernel)), Or.inr ⟨rfl, by decide +kernel⟩⟩
set_option maxRecDepth 20000 in
theorem mf_7_e6 : mm_Pf 7 (69, 7, 6, 1) := ⟨(RX7, TX7, 28), rfl, Nat.le_of_ble_eq_true rfl, (mm_t3 (w := .fieldLink RX7 69 "PondRingsModel" "wide" "I") 144 (by decide +kernel) (by decide +kernel)), Or.inr ⟨rfl, by decide +kernel⟩⟩
set_option maxRecDepth 20000 in
theorem mf_7_e7 : mm_Pf 7 (19, 7, 7, 0) := ⟨(RX7, TX7, 28), rfl, Nat.le_of_ble_eq_true rfl, (mm_t3 (w := .fieldLink RX7 19 "PondRingsModel" "isWater" "[Z") 145 (by decide +kernel) (by decide +kernel)), Or.inl rfl⟩
set_option maxRecDepth 20000 in
theorem mf_7_e8 : mm_Pf 7 (23, 7, 8, 0) := ⟨(RX7, TX7, 28), rfl, Nat.le_of_ble_eq_true rfl, (mm_t3 (w := .fieldLink RX7 23 "PondRingsModel" "ways" "[I") 146 (by decide +kernel) (by decide +kernel)), Or.inl rfl⟩
set_option maxRecDepth 20000 in
theorem mf_7_e9 : mm_Pf 7 (76, 7, 9, 1) := ⟨(RX7, TX7, 28), rfl, Nat.le_of_ble_eq_true rfl, (mm_t3 (w := .fieldLink RX7 76 "PondRingsModel" "at" "I") 147 (by decide +kernel) (by decide +kernel)), Or.inr ⟨rfl, by decide +kernel⟩⟩
set_option maxRecDepth 20000 in
theorem mf_7_e10 : mm_Pf 7 (97, 7, 10, 1) := ⟨(RX7, TX7, 28), rfl, Nat.le_of_ble_eq_true rfl, (mm_t3 (w := .fieldLink RX7 97 "PondRingsModel" "readHigh" "I") 148 (by decide +kernel) (by decide +kernel)), Or.inr ⟨rfl, by decide +kernel⟩⟩
set_option maxRecDepth 20000 in
theorem mf_7_e11 : mm_Pf 7 (100, 7, 11, 1) := ⟨(RX7, TX7, 28), rfl, Nat.le_of_ble_eq_true rfl, (mm_t3 (w := .fieldLink RX7 100 "PondRingsModel" "readWide" "I") 149 (by decide +kernel) (by decide +kernel)), Or.inr ⟨rfl, by decide +kernel⟩⟩
set_option maxRecDepth 20000 in
theorem mf_7_e12 : mm_Pf 7 (26, 7, 12, 0) := ⟨(RX7, TX7, 28), rfl, Nat.le_of_ble_eq_true rfl, (mm_t3 (w := .fieldLink RX7 26 "PondRingsModel" "readWater" "[Z") 150 (by decide +kernel) (by decide +kernel)), Or.inl rfl⟩
set_option maxRecDepth 20000 in
theorem mf_7_e13 : mm_Pf 7 (106, 7, 13, 1) := ⟨(RX7, TX7, 28), rfl, Nat.le_of_ble_eq_true rfl, (mm_t3 (w := .fieldLink RX7 106 "PondRingsModel" "stones" "I") 151 (by decide +kernel) (by decide +kernel)), Or.inr ⟨rfl, by decide +kernel⟩⟩
set_option maxRecDepth 20000 in
theorem mf_7_e14 : mm_Pf 7 (29, 7, 14, 0) := ⟨(RX7, TX7, 28), rfl, Nat.le_of_ble_eq_true rfl, (mm_t3 (w := .fieldLink RX7 29 "PondRingsModel" "stoneKind" "[I") 152 (by decide +kernel) (by decide +kernel)), Or.inl rfl⟩
set_option maxRecDepth 20000 in
theorem mf_7_e15 : mm_Pf 7 (32, 7, 15, 0) := ⟨(RX7, TX7, 28), rfl, Nat.le_of_ble_eq_true rfl, (mm_t3 (w := .fieldLink RX7 32 "PondRingsModel" "stoneCell" "[I") 153 (by decide +kernel) (by decide +kernel)), Or.inl rfl⟩
set_option maxRecDepth 20000 in
theorem mf_7_e16 : mm_Pf 7 (35, 7, 16, 0) := ⟨(RX7, TX7, 28), rfl, Nat.le_of_ble_eq_true rfl, (mm_t3 (w := .fieldLink RX7 35 "PondRingsModel" "stoneMinute" "[I") 154 (by decide +kernel) (by decide +kernel)), Or.inl rfl⟩
set_option maxRecDepth 20000 in
theorem mf_7_e17 : mm_Pf 7 (145, 7, 17, 1) := ⟨(RX7, TX7, 28), rfl, Nat.le_of_ble_eq_true rfl, (mm_t3 (w := .fieldLink RX7 145 "PondRingsModel" "metMinute" "I") 155 (by decide +kernel) (by decide +kernel)), Or.inr ⟨rfl, by decide +kernel⟩⟩
set_option maxRecDepth 20000 in
theorem mf_7_e18 : mm_Pf 7 (152, 7, 18, 1) := ⟨(RX7, TX7, 28), rfl, Nat.le_of_ble_eq_true rfl, (mm_t3 (w := .fieldLink RX7 152 "PondRingsModel" "metCell" "I") 156 (by decide +kernel) (by decide +kernel)), Or.inr ⟨rfl, by decide +kernel⟩⟩
set_option maxRecDepth 20000 in
theorem mf_7_e19 : mm_Pf 7 (148, 7, 19, 3) := ⟨(RX7, TX7, 28), rfl, Nat.le_of_ble_eq_true rfl, (mm_t3 (w := .fieldLink RX7 148 "PondRingsModel" "isAtOne" "Z") 157 (by decide +kernel) (by decide +kernel)), Or.inr ⟨rfl, by decide +kernel⟩⟩
set_option maxRecDepth 20000 in
theorem mf_7_e20 : mm_Pf 7 (109, 7, 20, 1) := ⟨(RX7, TX7, 28), rfl, Nat.le_of_ble_eq_true rfl, (mm_t3 (w := .fieldLink RX7 109 "PondRingsModel" "wishes" "I") 158 (by decide +kernel) (by decide +kernel)), Or.inr ⟨rfl, by decide +kernel⟩⟩
set_option maxRecDepth 20000 in
theorem mf_7_e21 : mm_Pf 7 (38, 7, 21, 0) := ⟨(RX7, TX7, 28), rfl, Nat.le_of_ble_eq_true rfl, (mm_t3 (w := .fieldLink RX7 38 "PondRingsModel" "wishKind" "[I") 159 (by decide +kernel) (by decide +kernel)), Or.inl rfl⟩
set_option maxRecDepth 20000 in
theorem mf_7_e22 : mm_Pf 7 (41, 7, 22, 0) := ⟨(RX7, TX7, 28), rfl, Nat.le_of_ble_eq_true rfl, (mm_t3 (w := .fieldLink RX7 41 "PondRingsModel" "wishCell" "[I") 160 (by decide +kernel) (by decide +kernel)), Or.inl rfl⟩
set_option maxRecDepth 20000 in
theorem mf_7_e23 : mm_Pf 7 (44, 7, 23, 0) := ⟨(RX7, TX7, 28), rfl, Nat.le_of_ble_eq_true rfl, (mm_t3 (w := .fieldLink RX7 44 "PondRingsModel" "doMeet" "[Z") 161 (by decide +kernel) (by decide +kernel)), Or.inl rfl⟩
set_option maxRecDepth 20000 in
theorem mf_7_e24 : mm_Pf 7 (47, 7, 24, 0) := ⟨(RX7, TX7, 28), rfl, Nat.le_of_ble_eq_true rfl, (mm_t3 (w := .fieldLink RX7 47 "PondRingsModel" "minutes" "[I") 162 (by decide +kernel) (by decide +kernel)), Or.inl rfl⟩
set_option maxRecDepth 20000 in
theorem mf_7_e25 : mm_Pf 7 (112, 7, 25, 1) := ⟨(RX7, TX7, 28), rfl, Nat.le_of_ble_eq_true rfl, (mm_t3 (w := .fieldLink RX7 112 "PondRingsModel" "reeds" "I") 163 (by decide +kernel) (by decide +kernel)), Or.inr ⟨rfl, by decide +kernel⟩⟩
set_option maxRecDepth 20000 in
theorem mf_7_e26 : mm_Pf 7 (50, 7, 26, 0) := ⟨(RX7, TX7, 28), rfl, Nat.le_of_ble_eq_true rfl, (mm_t3 (w := .fieldLink RX7 50 "PondRingsModel" "reedCell" "[I") 164 (by decide +kernel) (by decide +kernel)), Or.inl rfl⟩
set_option maxRecDepth 20000 in
theorem mf_7_e27 : mm_Pf 7 (53, 7, 27, 0) := ⟨(RX7, TX7, 28), rfl, Nat.le_of_ble_eq_true rfl, (mm_t3 (w := .fieldLink RX7 53 "PondRingsModel" "reedMinute" "[I") 165 (by decide +kernel) (by decide +kernel)), Or.inl rfl⟩
theorem mf_7 : ∀ e ∈ mm_fT_7, mm_Pf 7 e := List.forall_mem_cons.mpr ⟨mf_7_e0, List.forall_mem_cons.mpr ⟨mf_7_e1, List.forall_mem_cons.mpr ⟨mf_7_e2, List.forall_mem_cons.mpr ⟨mf_7_e3, List.forall_mem_cons.mpr ⟨mf_7_e4, List.forall_mem_cons.mpr ⟨mf_7_e5, List.forall_mem_cons.mpr ⟨mf_7_e6, List.forall_mem_cons.mpr ⟨mf_7_e7, List.forall_mem_cons.mpr ⟨mf_7_e8, List.forall_mem_cons.mpr ⟨mf_7_e9, List.forall_mem_cons.mpr ⟨mf_7_e10, List.forall_mem_cons.mpr ⟨mf_7_e11, List.forall_mem_cons.mpr ⟨mf_7_e12, List.forall_mem_cons.mpr ⟨mf_7_e13, List.forall_mem_cons.mpr ⟨mf_7_e14, List.forall_mem_cons.mpr ⟨mf_7_e15, List.forall_mem_cons.mpr ⟨mf_7_e16, List.forall_mem_cons.mpr ⟨mf_7_e17, List.forall_mem_cons.mpr ⟨mf_7_e18, List.forall_mem_cons.mpr ⟨mf_7_e19, List.forall_mem_cons.mpr ⟨mf_7_e20, List.forall_mem_cons.mpr ⟨mf_7_e21, List.forall_mem_cons.mpr ⟨mf_7_e22, List.forall_mem_cons.mpr ⟨mf_7_e23, List.forall_mem_cons.mpr ⟨mf_7_e24, List.forall_mem_cons.mpr ⟨mf_7_e25, List.forall_mem_cons.mpr ⟨mf_7_e26, List.forall_mem_cons.mpr ⟨mf_7_e27, fun _ h => absurd h List.not_mem_nil⟩⟩⟩⟩⟩⟩⟩⟩⟩⟩⟩⟩⟩⟩⟩⟩⟩⟩⟩⟩⟩⟩⟩⟩⟩⟩⟩⟩
theorem mf_8 : ∀ e ∈ mm_fT_8, mm_Pf 8 e := fun _ h => absurd h List.not_mem_nil
set_option maxRecDepth 20000 in
theorem mu_0_0 : u_lay RX0 TX0 0 ∈ mm_TB := (mm_t1 (w := u_lay RX0 TX0 0) 118 (by decide +kernel) (by decide +kernel))
set_option maxRecDepth 20000 in
theorem mu_0_1 : u_lay RX0 TX0 1 ∈ mm_TB := (mm_t1 (w := u_lay RX0 TX0 1) 120 (by decide +kernel) (by decide +kernel))
set_option maxRecDepth 20000 in
theorem mu_0_2 : u_lay RX0 TX0 2 ∈ mm_TB := (mm_t1 (w := u_lay RX0 TX0 2) 122 (by decide +kernel) (by decide +kernel))
set_option maxRecDepth 20000 in
theorem mu_0_3 : u_lay RX0 TX0 3 ∈ mm_TB := (mm_t1 (w := u_lay RX0 TX0 3) 124 (by decide +kernel) (by decide +kernel))
theorem mu_0 : ∀ w ∈ u_ws RX0 TX0 4, w ∈ mm_TB := by
  intro w hw
  obtain ⟨k, hk, rfl⟩ := List.mem_map.mp hw
  have hk := List.mem_range.mp hk
  match k, hk with
  | 0, _ => exact mu_0_0
  | 1, _ => exact mu_0_1
  | 2, _ => exact mu_0_2
  | 3, _ => exact mu_0_3
  | k + 4, hk => exact absurd hk (by omega)
set_option maxRecDepth 20000 in
theorem mu_1_0 : u_lay RX1 TX1 0 ∈ mm_TB := (mm_t1 (w := u_lay RX1 TX1 0) 137 (by decide +kernel) (by decide +kernel))
set_option maxRecDepth 20000 in
theorem mu_1_1 : u_lay RX1 TX1 1 ∈ mm_TB := (mm_t1 (w := u_lay RX1 TX1 1) 139 (by decide +kernel) (by decide +kernel))
theorem mu_1 : ∀ w ∈ u_ws RX1 TX1 2, w ∈ mm_TB := by
  intro w hw
  obtain ⟨k, hk, rfl⟩ := List.mem_map.mp hw
  have hk := List.mem_range.mp hk
  match k, hk with
  | 0, _ => exact mu_1_0
  | 1, _ => exact mu_1_1
  | k + 2, hk => exact absurd hk (by omega)
set_option maxRecDepth 20000 in
theorem mu_2_0 : u_lay RX2 TX2 0 ∈ mm_TB := (mm_t1 (w := u_lay RX2 TX2 0) 83 (by decide +kernel) (by decide +kernel))
set_option maxRecDepth 20000 in
theorem mu_2_1 : u_lay RX2 TX2 1 ∈ mm_TB := (mm_t1 (w := u_lay RX2 TX2 1) 85 (by decide +kernel) (by decide +kernel))
set_option maxRecDepth 20000 in
theorem mu_2_2 : u_lay RX2 TX2 2 ∈ mm_TB := (mm_t1 (w := u_lay RX2 TX2 2) 87 (by decide +kernel) (by decide +kernel))
set_option maxRecDepth 20000 in
theorem mu_2_3 : u_lay RX2 TX2 3 ∈ mm_TB := (mm_t1 (w := u_lay RX2 TX2 3) 89 (by decide +kernel) (by decide +kernel))
set_option maxRecDepth 20000 in
theorem mu_2_4 : u_lay RX2 TX2 4 ∈ mm_TB := (mm_t1 (w := u_lay RX2 TX2 4) 91 (by decide +kernel) (by decide +kernel))
set_option maxRecDepth 20000 in
theorem mu_2_5 : u_lay RX2 TX2 5 ∈ mm_TB := (mm_t1 (w := u_lay RX2 TX2 5) 93 (by decide +kernel) (by decide +kernel))
set_option maxRecDepth 20000 in
theorem mu_2_6 : u_lay RX2 TX2 6 ∈ mm_TB := (mm_t1 (w := u_lay RX2 TX2 6) 95 (by decide +kernel) (by decide +kernel))
set_option maxRecDepth 20000 in
theorem mu_2_7 : u_lay RX2 TX2 7 ∈ mm_TB := (mm_t1 (w := u_lay RX2 TX2 7) 97 (by decide +kernel) (by decide +kernel))
theorem mu_2 : ∀ w ∈ u_ws RX2 TX2 8, w ∈ mm_TB := by
  intro w hw
  obtain ⟨k, hk, rfl⟩ := List.mem_map.mp hw
  have hk := List.mem_range.mp hk
  match k, hk with
  | 0, _ => exact mu_2_0
  | 1, _ => exact mu_2_1
  | 2, _ => exact mu_2_2
  | 3, _ => exact mu_2_3
  | 4, _ => exact mu_2_4
  | 5, _ => exact mu_2_5
  | 6, _ => exact mu_2_6
  | 7, _ => exact mu_2_7
  | k + 8, hk => exact absurd hk (by omega)
set_option maxRecDepth 20000 in
theorem mu_3_0 : u_lay RX3 TX3 0 ∈ mm_TB := (mm_t1 (w := u_lay RX3 TX3 0) 59 (by decide +kernel) (by decide +kernel))
set_option maxRecDepth 20000 in
theorem mu_3_1 : u_lay RX3 TX3 1 ∈ mm_TB := (mm_t1 (w := u_lay RX3 TX3 1) 61 (by decide +kernel) (by decide +kernel))
set_option maxRecDepth 20000 in
theorem mu_3_2 : u_lay RX3 TX3 2 ∈ mm_TB := (mm_t1 (w := u_lay RX3 TX3 2) 63 (by decide +kernel) (by decide +kernel))
theorem mu_3 : ∀ w ∈ u_ws RX3 TX3 3, w ∈ mm_TB := by
  intro w hw
  obtain ⟨k, hk, rfl⟩ := List.mem_map.mp hw
  have hk := List.mem_range.mp hk
  match k, hk with
  | 0, _ => exact mu_3_0
  | 1, _ => exact mu_3_1
  | 2, _ => exact mu_3_2
  | k + 3, hk => exact absurd hk (by omega)
set_option maxRecDepth 20000 in
theorem mu_4_0 : u_lay RX4 TX4 0 ∈ mm_TB := (mm_t1 (w := u_lay RX4 TX4 0) 37 (by decide +kernel) (by decide +kernel))
set_option maxRecDepth 20000 in
theorem mu_4_1 : u_lay RX4 TX4 1 ∈ mm_TB := (mm_t1 (w := u_lay RX4 TX4 1) 39 (by decide +kernel) (by decide +kernel))
set_option maxRecDepth 20000 in
theorem mu_4_2 : u_lay RX4 TX4 2 ∈ mm_TB := (mm_t1 (w := u_lay RX4 TX4 2) 41 (by decide +kernel) (by decide +kernel))
set_option maxRecDepth 20000 in
theorem mu_4_3 : u_lay RX4 TX4 3 ∈ mm_TB := (mm_t1 (w := u_lay RX4 TX4 3) 43 (by decide +kernel) (by decide +kernel))
theorem mu_4 : ∀ w ∈ u_ws RX4 TX4 4, w ∈ mm_TB := by
  intro w hw
  obtain ⟨k, hk, rfl⟩ := List.mem_map.mp hw
  have hk := List.mem_range.mp hk
  match k, hk with
  | 0, _ => exact mu_4_0
  | 1, _ => exact mu_4_1
  | 2, _ => exact mu_4_2
  | 3, _ => exact mu_4_3
  | k + 4, hk => exact absurd hk (by omega)
set_option maxRecDepth 20000 in
theorem mu_5_0 : u_lay RX5 TX5 0 ∈ mm_TB := (mm_t1 (w := u_lay RX5 TX5 0) 159 (by decide +kernel) (by decide +kernel))
set_option maxRecDepth 20000 in
theorem mu_5_1 : u_lay RX5 TX5 1 ∈ mm_TB := (mm_t1 (w := u_lay RX5 TX5 1) 161 (by decide +kernel) (by decide +kernel))
set_option maxRecDepth 20000 in
theorem mu_5_2 : u_lay RX5 TX5 2 ∈ mm_TB := (mm_t1 (w := u_lay RX5 TX5 2) 163 (by decide +kernel) (by decide +kernel))
set_option maxRecDepth 20000 in
theorem mu_5_3 : u_lay RX5 TX5 3 ∈ mm_TB := (mm_t1 (w := u_lay RX5 TX5 3) 165 (by decide +kernel) (by decide +kernel))
set_option maxRecDepth 20000 in
theorem mu_5_4 : u_lay RX5 TX5 4 ∈ mm_TB := (mm_t1 (w := u_lay RX5 TX5 4) 167 (by decide +kernel) (by decide +kernel))
set_option maxRecDepth 20000 in
theorem mu_5_5 : u_lay RX5 TX5 5 ∈ mm_TB := (mm_t1 (w := u_lay RX5 TX5 5) 169 (by decide +kernel) (by decide +kernel))
set_option maxRecDepth 20000 in
theorem mu_5_6 : u_lay RX5 TX5 6 ∈ mm_TB := (mm_t1 (w := u_lay RX5 TX5 6) 171 (by decide +kernel) (by decide +kernel))
set_option maxRecDepth 20000 in
theorem mu_5_7 : u_lay RX5 TX5 7 ∈ mm_TB := (mm_t1 (w := u_lay RX5 TX5 7) 173 (by decide +kernel) (by decide +kernel))
theorem mu_5 : ∀ w ∈ u_ws RX5 TX5 8, w ∈ mm_TB := by
  intro w hw
  obtain ⟨k, hk, rfl⟩ := List.mem_map.mp hw
  have hk := List.mem_range.mp hk
  match k, hk with
  | 0, _ => exact mu_5_0
  | 1, _ => exact mu_5_1
  | 2, _ => exact mu_5_2
  | 3, _ => exact mu_5_3
  | 4, _ => exact mu_5_4
  | 5, _ => exact mu_5_5
  | 6, _ => exact mu_5_6
  | 7, _ => exact mu_5_7
  | k + 8, hk => exact absurd hk (by omega)
set_option maxRecDepth 20000 in
theorem mu_6_0 : u_lay RX6 TX6 0 ∈ mm_TB := (mm_t1 (w := u_lay RX6 TX6 0) 187 (by decide +kernel) (by decide +kernel))
set_option maxRecDepth 20000 in
theorem mu_6_1 : u_lay RX6 TX6 1 ∈ mm_TB := (mm_t1 (w := u_lay RX6 TX6 1) 189 (by decide +kernel) (by decide +kernel))
set_option maxRecDepth 20000 in
theorem mu_6_2 : u_lay RX6 TX6 2 ∈ mm_TB := (mm_t1 (w := u_lay RX6 TX6 2) 191 (by decide +kernel) (by decide +kernel))
set_option maxRecDepth 20000 in
theorem mu_6_3 : u_lay RX6 TX6 3 ∈ mm_TB := (mm_t1 (w := u_lay RX6 TX6 3) 193 (by decide +kernel) (by decide +kernel))
set_option maxRecDepth 20000 in
theorem mu_6_4 : u_lay RX6 TX6 4 ∈ mm_TB := (mm_t1 (w := u_lay RX6 TX6 4) 195 (by decide +kernel) (by decide +kernel))
set_option maxRecDepth 20000 in
theorem mu_6_5 : u_lay RX6 TX6 5 ∈ mm_TB := (mm_t1 (w := u_lay RX6 TX6 5) 197 (by decide +kernel) (by decide +kernel))
set_option maxRecDepth 20000 in
theorem mu_6_6 : u_lay RX6 TX6 6 ∈ mm_TB := (mm_t1 (w := u_lay RX6 TX6 6) 199 (by decide +kernel) (by decide +kernel))
set_option maxRecDepth 20000 in
theorem mu_6_7 : u_lay RX6 TX6 7 ∈ mm_TB := (mm_t1 (w := u_lay RX6 TX6 7) 201 (by decide +kernel) (by decide +kernel))
set_option maxRecDepth 20000 in
theorem mu_6_8 : u_lay RX6 TX6 8 ∈ mm_TB := (mm_t1 (w := u_lay RX6 TX6 8) 203 (by decide +kernel) (by decide +kernel))
set_option maxRecDepth 20000 in
theorem mu_6_9 : u_lay RX6 TX6 9 ∈ mm_TB := (mm_t1 (w := u_lay RX6 TX6 9) 205 (by decide +kernel) (by decide +kernel))
set_option maxRecDepth 20000 in
theorem mu_6_10 : u_lay RX6 TX6 10 ∈ mm_TB := (mm_t1 (w := u_lay RX6 TX6 10) 207 (by decide +kernel) (by decide +kernel))
theorem mu_6 : ∀ w ∈ u_ws RX6 TX6 11, w ∈ mm_TB := by
  intro w hw
  obtain ⟨k, hk, rfl⟩ := List.mem_map.mp hw
  have hk := List.mem_range.mp hk
  match k, hk with
  | 0, _ => exact mu_6_0
  | 1, _ => exact mu_6_1
  | 2, _ => exact mu_6_2
  | 3, _ => exact mu_6_3
  | 4, _ => exact mu_6_4
  | 5, _ => exact mu_6_5
  | 6, _ => exact mu_6_6
  | 7, _ => exact mu_6_7
  | 8, _ => exact mu_6_8
  | 9, _ => exact mu_6_9
  | 10, _ => exact mu_6_10
  | k + 11, hk => exact absurd hk (by omega)
set_option maxRecDepth 20000 in
theorem mu_7_0 : u_lay RX7 TX7 0 ∈ mm_TB := (mm_t3 (w := u_lay RX7 TX7 0) 166 (by decide +kernel) (by decide +kernel))
set_option maxRecDepth 20000 in
theorem mu_7_1 : u_lay RX7 TX7 1 ∈ mm_TB := (mm_t3 (w := u_lay RX7 TX7 1) 168 (by decide +kernel) (by decide +kernel))
set_option maxRecDepth 20000 in
theorem mu_7_2 : u_lay RX7 TX7 2 ∈ mm_TB := (mm_t3 (w := u_lay RX7 TX7 2) 170 (by decide +kernel) (by decide +kernel))
set_option maxRecDepth 20000 in
theorem mu_7_3 : u_lay RX7 TX7 3 ∈ mm_TB := (mm_t3 (w := u_lay RX7 TX7 3) 172 (by decide +kernel) (by decide +kernel))
set_option maxRecDepth 20000 in
theorem mu_7_4 : u_lay RX7 TX7 4 ∈ mm_TB := (mm_t3 (w := u_lay RX7 TX7 4) 174 (by decide +kernel) (by decide +kernel))
set_option maxRecDepth 20000 in
theorem mu_7_5 : u_lay RX7 TX7 5 ∈ mm_TB := (mm_t3 (w := u_lay RX7 TX7 5) 176 (by decide +kernel) (by decide +kernel))
set_option maxRecDepth 20000 in
theorem mu_7_6 : u_lay RX7 TX7 6 ∈ mm_TB := (mm_t3 (w := u_lay RX7 TX7 6) 178 (by decide +kernel) (by decide +kernel))
set_option maxRecDepth 20000 in
theorem mu_7_7 : u_lay RX7 TX7 7 ∈ mm_TB := (mm_t3 (w := u_lay RX7 TX7 7) 180 (by decide +kernel) (by decide +kernel))
set_option maxRecDepth 20000 in
theorem mu_7_8 : u_lay RX7 TX7 8 ∈ mm_TB := (mm_t3 (w := u_lay RX7 TX7 8) 182 (by decide +kernel) (by decide +kernel))
set_option maxRecDepth 20000 in
theorem mu_7_9 : u_lay RX7 TX7 9 ∈ mm_TB := (mm_t3 (w := u_lay RX7 TX7 9) 184 (by decide +kernel) (by decide +kernel))
set_option maxRecDepth 20000 in
theorem mu_7_10 : u_lay RX7 TX7 10 ∈ mm_TB := (mm_t3 (w := u_lay RX7 TX7 10) 186 (by decide +kernel) (by decide +kernel))
set_option maxRecDepth 20000 in
theorem mu_7_11 : u_lay RX7 TX7 11 ∈ mm_TB := (mm_t3 (w := u_lay RX7 TX7 11) 188 (by decide +kernel) (by decide +kernel))
set_option maxRecDepth 20000 in
theorem mu_7_12 : u_lay RX7 TX7 12 ∈ mm_TB := (mm_t3 (w := u_lay RX7 TX7 12) 190 (by decide +kernel) (by decide +kernel))
set_option maxRecDepth 20000 in
theorem mu_7_13 : u_lay RX7 TX7 13 ∈ mm_TB := (mm_t3 (w := u_lay RX7 TX7 13) 192 (by decide +kernel) (by decide +kernel))
set_option maxRecDepth 20000 in
theorem mu_7_14 : u_lay RX7 TX7 14 ∈ mm_TB := (mm_t3 (w := u_lay RX7 TX7 14) 194 (by decide +kernel) (by decide +kernel))
set_option maxRecDepth 20000 in
theorem mu_7_15 : u_lay RX7 TX7 15 ∈ mm_TB := (mm_t3 (w := u_lay RX7 TX7 15) 196 (by decide +kernel) (by decide +kernel))
set_option maxRecDepth 20000 in
theorem mu_7_16 : u_lay RX7 TX7 16 ∈ mm_TB := (mm_t3 (w := u_lay RX7 TX7 16) 198 (by decide +kernel) (by decide +kernel))
set_option maxRecDepth 20000 in
theorem mu_7_17 : u_lay RX7 TX7 17 ∈ mm_TB := (mm_t3 (w := u_lay RX7 TX7 17) 200 (by decide +kernel) (by decide +kernel))
set_option maxRecDepth 20000 in
theorem mu_7_18 : u_lay RX7 TX7 18 ∈ mm_TB := (mm_t3 (w := u_lay RX7 TX7 18) 202 (by decide +kernel) (by decide +kernel))
set_option maxRecDepth 20000 in
theorem mu_7_19 : u_lay RX7 TX7 19 ∈ mm_TB := (mm_t3 (w := u_lay RX7 TX7 19) 204 (by decide +kernel) (by decide +kernel))
set_option maxRecDepth 20000 in
theorem mu_7_20 : u_lay RX7 TX7 20 ∈ mm_TB := (mm_t3 (w := u_lay RX7 TX7 20) 206 (by decide +kernel) (by decide +kernel))
set_option maxRecDepth 20000 in
theorem mu_7_21 : u_lay RX7 TX7 21 ∈ mm_TB := (mm_t3 (w := u_lay RX7 TX7 21) 208 (by decide +kernel) (by decide +kernel))
set_option maxRecDepth 20000 in
theorem mu_7_22 : u_lay RX7 TX7 22 ∈ mm_TB := (mm_t3 (w := u_lay RX7 TX7 22) 210 (by decide +kernel) (by decide +kernel))
set_option maxRecDepth 20000 in
theorem mu_7_23 : u_lay RX7 TX7 23 ∈ mm_TB := (mm_t3 (w := u_lay RX7 TX7 23) 212 (by decide +kernel) (by decide +kernel))
set_option maxRecDepth 20000 in
theorem mu_7_24 : u_lay RX7 TX7 24 ∈ mm_TB := (mm_t3 (w := u_lay RX7 TX7 24) 214 (by decide +kernel) (by decide +kernel))
set_option maxRecDepth 20000 in
theorem mu_7_25 : u_lay RX7 TX7 25 ∈ mm_TB := (mm_t3 (w := u_lay RX7 TX7 25) 216 (by decide +kernel) (by decide +kernel))
set_option maxRecDepth 20000 in
theorem mu_7_26 : u_lay RX7 TX7 26 ∈ mm_TB := (mm_t3 (w := u_lay RX7 TX7 26) 218 (by decide +kernel) (by decide +kernel))
set_option maxRecDepth 20000 in
theorem mu_7_27 : u_lay RX7 TX7 27 ∈ mm_TB := (mm_t3 (w := u_lay RX7 TX7 27) 220 (by decide +kernel) (by decide +kernel))
theorem mu_7 : ∀ w ∈ u_ws RX7 TX7 28, w ∈ mm_TB := by
  intro w hw
  obtain ⟨k, hk, rfl⟩ := List.mem_map.mp hw
  have hk := List.mem_range.mp hk
  match k, hk with
  | 0, _ => exact mu_7_0
  | 1, _ => exact mu_7_1
  | 2, _ => exact mu_7_2
  | 3, _ => exact mu_7_3
  | 4, _ => exact mu_7_4
  | 5, _ => exact mu_7_5
  | 6, _ => exact mu_7_6
  | 7, _ => exact mu_7_7
  | 8, _ => exact mu_7_8
  | 9, _ => exact mu_7_9
  | 10, _ => exact mu_7_10
  | 11, _ => exact mu_7_11
  | 12, _ => exact mu_7_12
  | 13, _ => exact mu_7_13
  | 14, _ => exact mu_7_14
  | 15, _ => exact mu_7_15
  | 16, _ => exact mu_7_16
  | 17, _ => exact mu_7_17
  | 18, _ => exact mu_7_18
  | 19, _ => exact mu_7_19
  | 20, _ => exact mu_7_20
  | 21, _ => exact mu_7_21
  | 22, _ => exact mu_7_22
  | 23, _ => exact mu_7_23
  | 24, _ => exact mu_7_24
  | 25, _ => exact mu_7_25
  | 26, _ => exact mu_7_26
  | 27, _ => exact mu_7_27
  | k + 28, hk => exact absurd hk (by omega)
set_option maxRecDepth 20000 in
theorem mj_max : Cond.static Lib.Math.max.name ∈ mm_TB ∧ Cond.code Lib.Math.max.name Lib.Math.max.code 2 (some .int) ∈ mm_TB := ⟨(mm_t2 (w := .static Lib.Math.max.name) 208 (by decide +kernel) (by decide +kernel)), (mm_t2 (w := .code Lib.Math.max.name Lib.Math.max.code 2 (some .int)) 209 (by decide +kernel) (by decide +kernel))⟩
theorem mj_min : Cond.static Lib.Math.min.name ∈ mm_TB ∧ Cond.code Lib.Math.min.name Lib.Math.min.code 2 (some .int) ∈ mm_TB := ⟨(mm_t2 (w := .static Lib.Math.min.name) 51 (by decide +kernel) (by decide +kernel)), (mm_t2 (w := .code Lib.Math.min.name Lib.Math.min.code 2 (some .int)) 52 (by decide +kernel) (by decide +kernel))⟩
theorem mj_abs : Cond.static Lib.Math.abs.name ∈ mm_TB ∧ Cond.code Lib.Math.abs.name Lib.Math.abs.code 1 (some .int) ∈ mm_TB := ⟨(mm_t3 (w := .static Lib.Math.abs.name) 11 (by decide +kernel) (by decide +kernel)), (mm_t3 (w := .code Lib.Math.abs.name Lib.Math.abs.code 1 (some .int)) 12 (by decide +kernel) (by decide +kernel))⟩
theorem mj_math : Cond.initialized "java/lang/Math" ∈ mm_TB := (mm_t1 (w := .initialized "java/lang/Math") 9 (by decide +kernel) (by decide +kernel))
theorem mj_sys : Cond.initialized "java/lang/System" ∈ mm_TB := (mm_t1 (w := .initialized "java/lang/System") 13 (by decide +kernel) (by decide +kernel))
theorem mj_copy : Cond.native arraycopyName ∈ mm_TB ∧ Cond.static arraycopyName ∈ mm_TB := ⟨(mm_t3 (w := .native arraycopyName) 83 (by decide +kernel) (by decide +kernel)), (mm_t3 (w := .static arraycopyName) 82 (by decide +kernel) (by decide +kernel))⟩
theorem mk_2_63 : Cond.constantLong RX2 63 (-1) ∈ mm_TB := (mm_t2 (w := .constantLong RX2 63 (-1)) 49 (by decide +kernel) (by decide +kernel))
theorem mk_6_160 : Cond.constantLong RX6 160 (-9223372036854775808) ∈ mm_TB := (mm_t2 (w := .constantLong RX6 160 (-9223372036854775808)) 94 (by decide +kernel) (by decide +kernel))
theorem mk_10_314 : Cond.constantLong RJ13 314 (6148914691236517205) ∈ mm_TB := (mm_t2 (w := .constantLong RJ13 314 (6148914691236517205)) 125 (by decide +kernel) (by decide +kernel))
theorem mk_10_316 : Cond.constantLong RJ13 316 (3689348814741910323) ∈ mm_TB := (mm_t2 (w := .constantLong RJ13 316 (3689348814741910323)) 126 (by decide +kernel) (by decide +kernel))
theorem mk_10_318 : Cond.constantLong RJ13 318 (1085102592571150095) ∈ mm_TB := (mm_t2 (w := .constantLong RJ13 318 (1085102592571150095)) 127 (by decide +kernel) (by decide +kernel))
theorem mk_5_63 : Cond.constantLong RX5 63 (-1) ∈ mm_TB := (mm_t2 (w := .constantLong RX5 63 (-1)) 165 (by decide +kernel) (by decide +kernel))
theorem mk_7_60 : Cond.constantLong RX7 60 (-9223372036854775808) ∈ mm_TB := (mm_t4 (w := .constantLong RX7 60 (-9223372036854775808)) 72 (by decide +kernel) (by decide +kernel))
theorem mk_9_265 : Cond.constant RJ6 265 (1431655765) ∈ mm_TB := (mm_t2 (w := .constant RJ6 265 (1431655765)) 186 (by decide +kernel) (by decide +kernel))
theorem mk_9_266 : Cond.constant RJ6 266 (858993459) ∈ mm_TB := (mm_t2 (w := .constant RJ6 266 (858993459)) 187 (by decide +kernel) (by decide +kernel))
theorem mk_9_267 : Cond.constant RJ6 267 (252645135) ∈ mm_TB := (mm_t2 (w := .constant RJ6 267 (252645135)) 188 (by decide +kernel) (by decide +kernel))
theorem mk_reach : Cond.fieldLink RX6 255 "PondRings" "REACH" "[I" ∈ mm_TB := (mm_t3 (w := .fieldLink RX6 255 "PondRings" "REACH" "[I") 42 (by decide +kernel) (by decide +kernel))
