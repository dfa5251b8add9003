/-! THE CONSTRUCTORS, over the large machine (written by wip/whole/gencon.py) -/
theorem md_0 : ∀ j, j < 4 → defaultValue (tyX0 j) = vp_V [.null, .null, .null, .int 0] j := by decide +kernel
theorem md_1 : ∀ j, j < 2 → defaultValue (tyX1 j) = vp_V [.int 0, .int 0] j := by decide +kernel
theorem md_2 : ∀ j, j < 8 → defaultValue (tyX2 j) = vp_V [.null, .null, .long 0, .long 0, .long 0, .int 0, .int 0, .long 0] j := by decide +kernel
theorem md_3 : ∀ j, j < 3 → defaultValue (tyX3 j) = vp_V [.int 0, .int 0, .long 0] j := by decide +kernel
theorem md_4 : ∀ j, j < 4 → defaultValue (tyX4 j) = vp_V [.null, .int 0, .int 0, .int 0] j := by decide +kernel
theorem md_5 : ∀ j, j < 8 → defaultValue (tyX5 j) = vp_V [.null, .null, .null, .null, .int 0, .null, .null, .int 0] j := by decide +kernel
theorem md_6 : ∀ j, j < 11 → defaultValue (tyX6 j) = vp_V [.null, .null, .null, .null, .null, .null, .null, .null, .null, .int 0, .int 0] j := by decide +kernel
theorem md_7 : ∀ j, j < 28 → defaultValue (tyX7 j) = vp_V [.int 0, .int 0, .null, .null, .null, .int 0, .int 0, .null, .null, .int 0, .int 0, .int 0, .null, .int 0, .null, .null, .null, .int 0, .int 0, .int 0, .int 0, .null, .null, .null, .null, .int 0, .null, .null] j := by decide +kernel
theorem wo_inst : Cond.instanceMethod objectInit ∈ mm_TB := (mm_t1 (w := .instanceMethod objectInit) 20 (by decide +kernel) (by decide +kernel))
theorem wo_code : Cond.code objectInit ⟨#[0xb1]⟩ 1 none ∈ mm_TB := (mm_t1 (w := .code objectInit ⟨#[0xb1]⟩ 1 none) 21 (by decide +kernel) (by decide +kernel))
theorem wa_int : Cond.arrayClass .int ∈ mm_TB := (mm_t1 (w := .arrayClass .int) 46 (by decide +kernel) (by decide +kernel))
theorem wa_long : Cond.arrayClass .long ∈ mm_TB := (mm_t1 (w := .arrayClass .long) 100 (by decide +kernel) (by decide +kernel))
theorem wa_boolean : Cond.arrayClass .boolean ∈ mm_TB := (mm_t3 (w := .arrayClass .boolean) 223 (by decide +kernel) (by decide +kernel))
theorem wc_code_0 : Cond.code yX0_init cX0_init 2 none ∈ mm_TB := (mm_t1 (w := .code yX0_init cX0_init 2 none) 105 (by decide +kernel) (by decide +kernel))
theorem wc_inst_0 : Cond.instanceMethod yX0_init ∈ mm_TB := (mm_t1 (w := .instanceMethod yX0_init) 104 (by decide +kernel) (by decide +kernel))
theorem wc_able_0 : Cond.instantiable RX0 4 ∈ mm_TB := (mm_t1 (w := .instantiable RX0 4) 102 (by decide +kernel) (by decide +kernel))
theorem wc_ini_0 : Cond.initialized RX0 ∈ mm_TB := (mm_t1 (w := .initialized RX0) 5 (by decide +kernel) (by decide +kernel))
theorem wc_code_1 : Cond.code yX1_init cX1_init 1 none ∈ mm_TB := (mm_t1 (w := .code yX1_init cX1_init 1 none) 131 (by decide +kernel) (by decide +kernel))
theorem wc_inst_1 : Cond.instanceMethod yX1_init ∈ mm_TB := (mm_t1 (w := .instanceMethod yX1_init) 130 (by decide +kernel) (by decide +kernel))
theorem wc_able_1 : Cond.instantiable RX1 2 ∈ mm_TB := (mm_t1 (w := .instantiable RX1 2) 128 (by decide +kernel) (by decide +kernel))
theorem wc_ini_1 : Cond.initialized RX1 ∈ mm_TB := (mm_t1 (w := .initialized RX1) 6 (by decide +kernel) (by decide +kernel))
theorem wc_code_2 : Cond.code yX2_init cX2_init 1 none ∈ mm_TB := (mm_t1 (w := .code yX2_init cX2_init 1 none) 70 (by decide +kernel) (by decide +kernel))
theorem wc_inst_2 : Cond.instanceMethod yX2_init ∈ mm_TB := (mm_t1 (w := .instanceMethod yX2_init) 69 (by decide +kernel) (by decide +kernel))
theorem wc_able_2 : Cond.instantiable RX2 8 ∈ mm_TB := (mm_t1 (w := .instantiable RX2 8) 67 (by decide +kernel) (by decide +kernel))
theorem wc_ini_2 : Cond.initialized RX2 ∈ mm_TB := (mm_t1 (w := .initialized RX2) 4 (by decide +kernel) (by decide +kernel))
theorem wc_code_3 : Cond.code yX3_init cX3_init 1 none ∈ mm_TB := (mm_t1 (w := .code yX3_init cX3_init 1 none) 51 (by decide +kernel) (by decide +kernel))
theorem wc_inst_3 : Cond.instanceMethod yX3_init ∈ mm_TB := (mm_t1 (w := .instanceMethod yX3_init) 50 (by decide +kernel) (by decide +kernel))
theorem wc_able_3 : Cond.instantiable RX3 3 ∈ mm_TB := (mm_t1 (w := .instantiable RX3 3) 48 (by decide +kernel) (by decide +kernel))
theorem wc_ini_3 : Cond.initialized RX3 ∈ mm_TB := (mm_t1 (w := .initialized RX3) 3 (by decide +kernel) (by decide +kernel))
theorem wc_code_4 : Cond.code yX4_init cX4_init 1 none ∈ mm_TB := (mm_t1 (w := .code yX4_init cX4_init 1 none) 27 (by decide +kernel) (by decide +kernel))
theorem wc_inst_4 : Cond.instanceMethod yX4_init ∈ mm_TB := (mm_t1 (w := .instanceMethod yX4_init) 26 (by decide +kernel) (by decide +kernel))
theorem wc_able_4 : Cond.instantiable RX4 4 ∈ mm_TB := (mm_t1 (w := .instantiable RX4 4) 24 (by decide +kernel) (by decide +kernel))
theorem wc_ini_4 : Cond.initialized RX4 ∈ mm_TB := (mm_t1 (w := .initialized RX4) 2 (by decide +kernel) (by decide +kernel))
theorem wc_code_5 : Cond.code yX5_init cX5_init 1 none ∈ mm_TB := (mm_t1 (w := .code yX5_init cX5_init 1 none) 146 (by decide +kernel) (by decide +kernel))
theorem wc_inst_5 : Cond.instanceMethod yX5_init ∈ mm_TB := (mm_t1 (w := .instanceMethod yX5_init) 145 (by decide +kernel) (by decide +kernel))
theorem wc_able_5 : Cond.instantiable RX5 8 ∈ mm_TB := (mm_t1 (w := .instantiable RX5 8) 143 (by decide +kernel) (by decide +kernel))
theorem wc_ini_5 : Cond.initialized RX5 ∈ mm_TB := (mm_t1 (w := .initialized RX5) 7 (by decide +kernel) (by decide +kernel))
theorem wc_code_6 : Cond.code yX6_init cX6_init 2 none ∈ mm_TB := (mm_t1 (w := .code yX6_init cX6_init 2 none) 18 (by decide +kernel) (by decide +kernel))
theorem wc_inst_6 : Cond.instanceMethod yX6_init ∈ mm_TB := (mm_t1 (w := .instanceMethod yX6_init) 17 (by decide +kernel) (by decide +kernel))
theorem wc_able_6 : Cond.instantiable RX6 11 ∈ mm_TB := (mm_t1 (w := .instantiable RX6 11) 15 (by decide +kernel) (by decide +kernel))
theorem wc_ini_6 : Cond.initialized RX6 ∈ mm_TB := (mm_t1 (w := .initialized RX6) 1 (by decide +kernel) (by decide +kernel))
theorem wc_code_7 : Cond.code yX7_init cX7_init 1 none ∈ mm_TB := (mm_t3 (w := .code yX7_init cX7_init 1 none) 136 (by decide +kernel) (by decide +kernel))
theorem wc_inst_7 : Cond.instanceMethod yX7_init ∈ mm_TB := (mm_t3 (w := .instanceMethod yX7_init) 135 (by decide +kernel) (by decide +kernel))
theorem wc_able_7 : Cond.instantiable RX7 28 ∈ mm_TB := (mm_t3 (w := .instantiable RX7 28) 133 (by decide +kernel) (by decide +kernel))
theorem wc_ini_7 : Cond.initialized RX7 ∈ mm_TB := (mm_t1 (w := .initialized RX7) 8 (by decide +kernel) (by decide +kernel))
theorem di_0_0 : decode cX0_init 0 = .ok (.aload_n 0, 1) := by decide +kernel
theorem di_0_1 : decode cX0_init 1 = .ok (.invokespecial 3, 3) := by decide +kernel
theorem di_0_4 : decode cX0_init 4 = .ok (.aload_n 0, 1) := by decide +kernel
theorem di_0_5 : decode cX0_init 5 = .ok (.iload_n 1, 1) := by decide +kernel
theorem di_0_6 : decode cX0_init 6 = .ok (.newarray .int, 2) := by decide +kernel
theorem di_0_8 : decode cX0_init 8 = .ok (.putfield 9, 3) := by decide +kernel
theorem di_0_11 : decode cX0_init 11 = .ok (.aload_n 0, 1) := by decide +kernel
theorem di_0_12 : decode cX0_init 12 = .ok (.iload_n 1, 1) := by decide +kernel
theorem di_0_13 : decode cX0_init 13 = .ok (.newarray .int, 2) := by decide +kernel
theorem di_0_15 : decode cX0_init 15 = .ok (.putfield 15, 3) := by decide +kernel
theorem di_0_18 : decode cX0_init 18 = .ok (.aload_n 0, 1) := by decide +kernel
theorem di_0_19 : decode cX0_init 19 = .ok (.iload_n 1, 1) := by decide +kernel
theorem di_0_20 : decode cX0_init 20 = .ok (.newarray .int, 2) := by decide +kernel
theorem di_0_22 : decode cX0_init 22 = .ok (.putfield 18, 3) := by decide +kernel
theorem di_0_25 : decode cX0_init 25 = .ok (.return_, 1) := by decide +kernel
theorem di_1_0 : decode cX1_init 0 = .ok (.aload_n 0, 1) := by decide +kernel
theorem di_1_1 : decode cX1_init 1 = .ok (.invokespecial 1, 3) := by decide +kernel
theorem di_1_4 : decode cX1_init 4 = .ok (.return_, 1) := by decide +kernel
theorem di_2_0 : decode cX2_init 0 = .ok (.aload_n 0, 1) := by decide +kernel
theorem di_2_1 : decode cX2_init 1 = .ok (.invokespecial 3, 3) := by decide +kernel
theorem di_2_4 : decode cX2_init 4 = .ok (.aload_n 0, 1) := by decide +kernel
theorem di_2_5 : decode cX2_init 5 = .ok (.sipush 1764, 3) := by decide +kernel
theorem di_2_8 : decode cX2_init 8 = .ok (.newarray .long, 2) := by decide +kernel
theorem di_2_10 : decode cX2_init 10 = .ok (.putfield 11, 3) := by decide +kernel
theorem di_2_13 : decode cX2_init 13 = .ok (.aload_n 0, 1) := by decide +kernel
theorem di_2_14 : decode cX2_init 14 = .ok (.bipush 42, 2) := by decide +kernel
theorem di_2_16 : decode cX2_init 16 = .ok (.newarray .int, 2) := by decide +kernel
theorem di_2_18 : decode cX2_init 18 = .ok (.putfield 15, 3) := by decide +kernel
theorem di_2_21 : decode cX2_init 21 = .ok (.return_, 1) := by decide +kernel
theorem di_3_0 : decode cX3_init 0 = .ok (.aload_n 0, 1) := by decide +kernel
theorem di_3_1 : decode cX3_init 1 = .ok (.invokespecial 1, 3) := by decide +kernel
theorem di_3_4 : decode cX3_init 4 = .ok (.return_, 1) := by decide +kernel
theorem di_4_0 : decode cX4_init 0 = .ok (.aload_n 0, 1) := by decide +kernel
theorem di_4_1 : decode cX4_init 1 = .ok (.invokespecial 1, 3) := by decide +kernel
theorem di_4_4 : decode cX4_init 4 = .ok (.aload_n 0, 1) := by decide +kernel
theorem di_4_5 : decode cX4_init 5 = .ok (.bipush 60, 2) := by decide +kernel
theorem di_4_7 : decode cX4_init 7 = .ok (.newarray .int, 2) := by decide +kernel
theorem di_4_9 : decode cX4_init 9 = .ok (.putfield 9, 3) := by decide +kernel
theorem di_4_12 : decode cX4_init 12 = .ok (.return_, 1) := by decide +kernel
theorem di_5_0 : decode cX5_init 0 = .ok (.aload_n 0, 1) := by decide +kernel
theorem di_5_1 : decode cX5_init 1 = .ok (.invokespecial 3, 3) := by decide +kernel
theorem di_5_4 : decode cX5_init 4 = .ok (.aload_n 0, 1) := by decide +kernel
theorem di_5_5 : decode cX5_init 5 = .ok (.bipush 36, 2) := by decide +kernel
theorem di_5_7 : decode cX5_init 7 = .ok (.newarray .long, 2) := by decide +kernel
theorem di_5_9 : decode cX5_init 9 = .ok (.putfield 11, 3) := by decide +kernel
theorem di_5_12 : decode cX5_init 12 = .ok (.aload_n 0, 1) := by decide +kernel
theorem di_5_13 : decode cX5_init 13 = .ok (.bipush 36, 2) := by decide +kernel
theorem di_5_15 : decode cX5_init 15 = .ok (.newarray .long, 2) := by decide +kernel
theorem di_5_17 : decode cX5_init 17 = .ok (.putfield 15, 3) := by decide +kernel
theorem di_5_20 : decode cX5_init 20 = .ok (.aload_n 0, 1) := by decide +kernel
theorem di_5_21 : decode cX5_init 21 = .ok (.bipush 42, 2) := by decide +kernel
theorem di_5_23 : decode cX5_init 23 = .ok (.newarray .long, 2) := by decide +kernel
theorem di_5_25 : decode cX5_init 25 = .ok (.putfield 18, 3) := by decide +kernel
theorem di_5_28 : decode cX5_init 28 = .ok (.aload_n 0, 1) := by decide +kernel
theorem di_5_29 : decode cX5_init 29 = .ok (.bipush 6, 2) := by decide +kernel
theorem di_5_31 : decode cX5_init 31 = .ok (.newarray .int, 2) := by decide +kernel
theorem di_5_33 : decode cX5_init 33 = .ok (.putfield 21, 3) := by decide +kernel
theorem di_5_36 : decode cX5_init 36 = .ok (.aload_n 0, 1) := by decide +kernel
theorem di_5_37 : decode cX5_init 37 = .ok (.bipush 6, 2) := by decide +kernel
theorem di_5_39 : decode cX5_init 39 = .ok (.newarray .int, 2) := by decide +kernel
theorem di_5_41 : decode cX5_init 41 = .ok (.putfield 25, 3) := by decide +kernel
theorem di_5_44 : decode cX5_init 44 = .ok (.aload_n 0, 1) := by decide +kernel
theorem di_5_45 : decode cX5_init 45 = .ok (.bipush 6, 2) := by decide +kernel
theorem di_5_47 : decode cX5_init 47 = .ok (.newarray .int, 2) := by decide +kernel
theorem di_5_49 : decode cX5_init 49 = .ok (.putfield 28, 3) := by decide +kernel
theorem di_5_52 : decode cX5_init 52 = .ok (.return_, 1) := by decide +kernel
theorem di_6_0 : decode cX6_init 0 = .ok (.aload_n 0, 1) := by decide +kernel
theorem di_6_1 : decode cX6_init 1 = .ok (.invokespecial 3, 3) := by decide +kernel
theorem di_6_4 : decode cX6_init 4 = .ok (.aload_n 0, 1) := by decide +kernel
theorem di_6_5 : decode cX6_init 5 = .ok (.iconst 4, 1) := by decide +kernel
theorem di_6_6 : decode cX6_init 6 = .ok (.anewarray 11, 3) := by decide +kernel
theorem di_6_9 : decode cX6_init 9 = .ok (.putfield 13, 3) := by decide +kernel
theorem di_6_12 : decode cX6_init 12 = .ok (.iconst 0, 1) := by decide +kernel
theorem di_6_13 : decode cX6_init 13 = .ok (.istore_n 1, 1) := by decide +kernel
theorem di_6_14 : decode cX6_init 14 = .ok (.iload_n 1, 1) := by decide +kernel
theorem di_6_15 : decode cX6_init 15 = .ok (.iconst 4, 1) := by decide +kernel
theorem di_6_16 : decode cX6_init 16 = .ok (.if_icmp .ge 22, 3) := by decide +kernel
theorem di_6_19 : decode cX6_init 19 = .ok (.aload_n 0, 1) := by decide +kernel
theorem di_6_20 : decode cX6_init 20 = .ok (.getfield 13, 3) := by decide +kernel
theorem di_6_23 : decode cX6_init 23 = .ok (.iload_n 1, 1) := by decide +kernel
theorem di_6_24 : decode cX6_init 24 = .ok (.new 11, 3) := by decide +kernel
theorem di_6_27 : decode cX6_init 27 = .ok (.dup, 1) := by decide +kernel
theorem di_6_28 : decode cX6_init 28 = .ok (.invokespecial 17, 3) := by decide +kernel
theorem di_6_31 : decode cX6_init 31 = .ok (.aastore, 1) := by decide +kernel
theorem di_6_32 : decode cX6_init 32 = .ok (.iinc 1 1, 3) := by decide +kernel
theorem di_6_35 : decode cX6_init 35 = .ok (.goto (-21), 3) := by decide +kernel
theorem di_6_38 : decode cX6_init 38 = .ok (.aload_n 0, 1) := by decide +kernel
theorem di_6_39 : decode cX6_init 39 = .ok (.new 18, 3) := by decide +kernel
theorem di_6_42 : decode cX6_init 42 = .ok (.dup, 1) := by decide +kernel
theorem di_6_43 : decode cX6_init 43 = .ok (.invokespecial 20, 3) := by decide +kernel
theorem di_6_46 : decode cX6_init 46 = .ok (.putfield 21, 3) := by decide +kernel
theorem di_6_49 : decode cX6_init 49 = .ok (.aload_n 0, 1) := by decide +kernel
theorem di_6_50 : decode cX6_init 50 = .ok (.new 25, 3) := by decide +kernel
theorem di_6_53 : decode cX6_init 53 = .ok (.dup, 1) := by decide +kernel
theorem di_6_54 : decode cX6_init 54 = .ok (.invokespecial 27, 3) := by decide +kernel
theorem di_6_57 : decode cX6_init 57 = .ok (.putfield 28, 3) := by decide +kernel
theorem di_6_60 : decode cX6_init 60 = .ok (.aload_n 0, 1) := by decide +kernel
theorem di_6_61 : decode cX6_init 61 = .ok (.new 32, 3) := by decide +kernel
theorem di_6_64 : decode cX6_init 64 = .ok (.dup, 1) := by decide +kernel
theorem di_6_65 : decode cX6_init 65 = .ok (.bipush 8, 2) := by decide +kernel
theorem di_6_67 : decode cX6_init 67 = .ok (.invokespecial 34, 3) := by decide +kernel
theorem di_6_70 : decode cX6_init 70 = .ok (.putfield 37, 3) := by decide +kernel
theorem di_6_73 : decode cX6_init 73 = .ok (.aload_n 0, 1) := by decide +kernel
theorem di_6_74 : decode cX6_init 74 = .ok (.new 32, 3) := by decide +kernel
theorem di_6_77 : decode cX6_init 77 = .ok (.dup, 1) := by decide +kernel
theorem di_6_78 : decode cX6_init 78 = .ok (.bipush 6, 2) := by decide +kernel
theorem di_6_80 : decode cX6_init 80 = .ok (.invokespecial 34, 3) := by decide +kernel
theorem di_6_83 : decode cX6_init 83 = .ok (.putfield 41, 3) := by decide +kernel
theorem di_6_86 : decode cX6_init 86 = .ok (.aload_n 0, 1) := by decide +kernel
theorem di_6_87 : decode cX6_init 87 = .ok (.new 32, 3) := by decide +kernel
theorem di_6_90 : decode cX6_init 90 = .ok (.dup, 1) := by decide +kernel
theorem di_6_91 : decode cX6_init 91 = .ok (.bipush 6, 2) := by decide +kernel
theorem di_6_93 : decode cX6_init 93 = .ok (.invokespecial 34, 3) := by decide +kernel
theorem di_6_96 : decode cX6_init 96 = .ok (.putfield 44, 3) := by decide +kernel
theorem di_6_99 : decode cX6_init 99 = .ok (.aload_n 0, 1) := by decide +kernel
theorem di_6_100 : decode cX6_init 100 = .ok (.new 47, 3) := by decide +kernel
theorem di_6_103 : decode cX6_init 103 = .ok (.dup, 1) := by decide +kernel
theorem di_6_104 : decode cX6_init 104 = .ok (.invokespecial 49, 3) := by decide +kernel
theorem di_6_107 : decode cX6_init 107 = .ok (.putfield 50, 3) := by decide +kernel
theorem di_6_110 : decode cX6_init 110 = .ok (.aload_n 0, 1) := by decide +kernel
theorem di_6_111 : decode cX6_init 111 = .ok (.new 54, 3) := by decide +kernel
theorem di_6_114 : decode cX6_init 114 = .ok (.dup, 1) := by decide +kernel
theorem di_6_115 : decode cX6_init 115 = .ok (.invokespecial 56, 3) := by decide +kernel
theorem di_6_118 : decode cX6_init 118 = .ok (.putfield 57, 3) := by decide +kernel
theorem di_6_121 : decode cX6_init 121 = .ok (.aload_n 0, 1) := by decide +kernel
theorem di_6_122 : decode cX6_init 122 = .ok (.bipush 6, 2) := by decide +kernel
theorem di_6_124 : decode cX6_init 124 = .ok (.newarray .int, 2) := by decide +kernel
theorem di_6_126 : decode cX6_init 126 = .ok (.putfield 61, 3) := by decide +kernel
theorem di_6_129 : decode cX6_init 129 = .ok (.aload_n 0, 1) := by decide +kernel
theorem di_6_130 : decode cX6_init 130 = .ok (.iconst 0, 1) := by decide +kernel
theorem di_6_131 : decode cX6_init 131 = .ok (.putfield 65, 3) := by decide +kernel
theorem di_6_134 : decode cX6_init 134 = .ok (.aload_n 0, 1) := by decide +kernel
theorem di_6_135 : decode cX6_init 135 = .ok (.iconst 0, 1) := by decide +kernel
theorem di_6_136 : decode cX6_init 136 = .ok (.putfield 69, 3) := by decide +kernel
theorem di_6_139 : decode cX6_init 139 = .ok (.return_, 1) := by decide +kernel
theorem di_7_0 : decode cX7_init 0 = .ok (.aload_n 0, 1) := by decide +kernel
theorem di_7_1 : decode cX7_init 1 = .ok (.invokespecial 1, 3) := by decide +kernel
theorem di_7_4 : decode cX7_init 4 = .ok (.aload_n 0, 1) := by decide +kernel
theorem di_7_5 : decode cX7_init 5 = .ok (.iconst 4, 1) := by decide +kernel
theorem di_7_6 : decode cX7_init 6 = .ok (.newarray .int, 2) := by decide +kernel
theorem di_7_8 : decode cX7_init 8 = .ok (.dup, 1) := by decide +kernel
theorem di_7_9 : decode cX7_init 9 = .ok (.iconst 0, 1) := by decide +kernel
theorem di_7_10 : decode cX7_init 10 = .ok (.bipush (-9), 2) := by decide +kernel
theorem di_7_12 : decode cX7_init 12 = .ok (.iastore, 1) := by decide +kernel
theorem di_7_13 : decode cX7_init 13 = .ok (.dup, 1) := by decide +kernel
theorem di_7_14 : decode cX7_init 14 = .ok (.iconst 1, 1) := by decide +kernel
theorem di_7_15 : decode cX7_init 15 = .ok (.bipush (-9), 2) := by decide +kernel
theorem di_7_17 : decode cX7_init 17 = .ok (.iastore, 1) := by decide +kernel
theorem di_7_18 : decode cX7_init 18 = .ok (.dup, 1) := by decide +kernel
theorem di_7_19 : decode cX7_init 19 = .ok (.iconst 2, 1) := by decide +kernel
theorem di_7_20 : decode cX7_init 20 = .ok (.bipush (-9), 2) := by decide +kernel
theorem di_7_22 : decode cX7_init 22 = .ok (.iastore, 1) := by decide +kernel
theorem di_7_23 : decode cX7_init 23 = .ok (.dup, 1) := by decide +kernel
theorem di_7_24 : decode cX7_init 24 = .ok (.iconst 3, 1) := by decide +kernel
theorem di_7_25 : decode cX7_init 25 = .ok (.bipush (-9), 2) := by decide +kernel
theorem di_7_27 : decode cX7_init 27 = .ok (.iastore, 1) := by decide +kernel
theorem di_7_28 : decode cX7_init 28 = .ok (.putfield 9, 3) := by decide +kernel
theorem di_7_31 : decode cX7_init 31 = .ok (.aload_n 0, 1) := by decide +kernel
theorem di_7_32 : decode cX7_init 32 = .ok (.iconst 4, 1) := by decide +kernel
theorem di_7_33 : decode cX7_init 33 = .ok (.newarray .int, 2) := by decide +kernel
theorem di_7_35 : decode cX7_init 35 = .ok (.putfield 13, 3) := by decide +kernel
theorem di_7_38 : decode cX7_init 38 = .ok (.aload_n 0, 1) := by decide +kernel
theorem di_7_39 : decode cX7_init 39 = .ok (.sipush 240, 3) := by decide +kernel
theorem di_7_42 : decode cX7_init 42 = .ok (.newarray .int, 2) := by decide +kernel
theorem di_7_44 : decode cX7_init 44 = .ok (.putfield 16, 3) := by decide +kernel
theorem di_7_47 : decode cX7_init 47 = .ok (.aload_n 0, 1) := by decide +kernel
theorem di_7_48 : decode cX7_init 48 = .ok (.bipush 42, 2) := by decide +kernel
theorem di_7_50 : decode cX7_init 50 = .ok (.newarray .boolean, 2) := by decide +kernel
theorem di_7_52 : decode cX7_init 52 = .ok (.putfield 19, 3) := by decide +kernel
theorem di_7_55 : decode cX7_init 55 = .ok (.aload_n 0, 1) := by decide +kernel
theorem di_7_56 : decode cX7_init 56 = .ok (.sipush 1764, 3) := by decide +kernel
theorem di_7_59 : decode cX7_init 59 = .ok (.newarray .int, 2) := by decide +kernel
theorem di_7_61 : decode cX7_init 61 = .ok (.putfield 23, 3) := by decide +kernel
theorem di_7_64 : decode cX7_init 64 = .ok (.aload_n 0, 1) := by decide +kernel
theorem di_7_65 : decode cX7_init 65 = .ok (.bipush 42, 2) := by decide +kernel
theorem di_7_67 : decode cX7_init 67 = .ok (.newarray .boolean, 2) := by decide +kernel
theorem di_7_69 : decode cX7_init 69 = .ok (.putfield 26, 3) := by decide +kernel
theorem di_7_72 : decode cX7_init 72 = .ok (.aload_n 0, 1) := by decide +kernel
theorem di_7_73 : decode cX7_init 73 = .ok (.bipush 8, 2) := by decide +kernel
theorem di_7_75 : decode cX7_init 75 = .ok (.newarray .int, 2) := by decide +kernel
theorem di_7_77 : decode cX7_init 77 = .ok (.putfield 29, 3) := by decide +kernel
theorem di_7_80 : decode cX7_init 80 = .ok (.aload_n 0, 1) := by decide +kernel
theorem di_7_81 : decode cX7_init 81 = .ok (.bipush 8, 2) := by decide +kernel
theorem di_7_83 : decode cX7_init 83 = .ok (.newarray .int, 2) := by decide +kernel
theorem di_7_85 : decode cX7_init 85 = .ok (.putfield 32, 3) := by decide +kernel
theorem di_7_88 : decode cX7_init 88 = .ok (.aload_n 0, 1) := by decide +kernel
theorem di_7_89 : decode cX7_init 89 = .ok (.bipush 8, 2) := by decide +kernel
theorem di_7_91 : decode cX7_init 91 = .ok (.newarray .int, 2) := by decide +kernel
theorem di_7_93 : decode cX7_init 93 = .ok (.putfield 35, 3) := by decide +kernel
theorem di_7_96 : decode cX7_init 96 = .ok (.aload_n 0, 1) := by decide +kernel
theorem di_7_97 : decode cX7_init 97 = .ok (.bipush 6, 2) := by decide +kernel
theorem di_7_99 : decode cX7_init 99 = .ok (.newarray .int, 2) := by decide +kernel
theorem di_7_101 : decode cX7_init 101 = .ok (.putfield 38, 3) := by decide +kernel
theorem di_7_104 : decode cX7_init 104 = .ok (.aload_n 0, 1) := by decide +kernel
theorem di_7_105 : decode cX7_init 105 = .ok (.bipush 6, 2) := by decide +kernel
theorem di_7_107 : decode cX7_init 107 = .ok (.newarray .int, 2) := by decide +kernel
theorem di_7_109 : decode cX7_init 109 = .ok (.putfield 41, 3) := by decide +kernel
theorem di_7_112 : decode cX7_init 112 = .ok (.aload_n 0, 1) := by decide +kernel
theorem di_7_113 : decode cX7_init 113 = .ok (.sipush 3636, 3) := by decide +kernel
theorem di_7_116 : decode cX7_init 116 = .ok (.newarray .boolean, 2) := by decide +kernel
theorem di_7_118 : decode cX7_init 118 = .ok (.putfield 44, 3) := by decide +kernel
theorem di_7_121 : decode cX7_init 121 = .ok (.aload_n 0, 1) := by decide +kernel
theorem di_7_122 : decode cX7_init 122 = .ok (.bipush 6, 2) := by decide +kernel
theorem di_7_124 : decode cX7_init 124 = .ok (.newarray .int, 2) := by decide +kernel
theorem di_7_126 : decode cX7_init 126 = .ok (.putfield 47, 3) := by decide +kernel
theorem di_7_129 : decode cX7_init 129 = .ok (.aload_n 0, 1) := by decide +kernel
theorem di_7_130 : decode cX7_init 130 = .ok (.bipush 6, 2) := by decide +kernel
theorem di_7_132 : decode cX7_init 132 = .ok (.newarray .int, 2) := by decide +kernel
theorem di_7_134 : decode cX7_init 134 = .ok (.putfield 50, 3) := by decide +kernel
theorem di_7_137 : decode cX7_init 137 = .ok (.aload_n 0, 1) := by decide +kernel
theorem di_7_138 : decode cX7_init 138 = .ok (.bipush 6, 2) := by decide +kernel
theorem di_7_140 : decode cX7_init 140 = .ok (.newarray .int, 2) := by decide +kernel
theorem di_7_142 : decode cX7_init 142 = .ok (.putfield 53, 3) := by decide +kernel
theorem di_7_145 : decode cX7_init 145 = .ok (.return_, 1) := by decide +kernel
theorem wg {y : MethodName} {b : ByteArray} {n : Nat} {r : Option FieldType} (h : Cond.code y b n r ∈ mm_TB) : GoodIn mm_TB (Cond.code y b n r :: mm_TB) := by
  intro q hq
  rcases List.mem_cons.mp hq with rfl | hq
  · exact mm_good h
  · exact mm_good hq
theorem wo_4 : Cond.methodLink RX4 1 objectInit ∈ mm_TB := (mm_t1 (w := .methodLink RX4 1 objectInit) 28 (by decide +kernel) (by decide +kernel))
theorem wf_4_9 : Cond.fieldLink RX4 9 "PondRings$Sheet" "numbers" "[I" ∈ mm_TB := (mm_t1 (w := .fieldLink RX4 9 "PondRings$Sheet" "numbers" "[I") 29 (by decide +kernel) (by decide +kernel))
set_option maxHeartbeats 4000000 in
set_option maxRecDepth 100000 in
theorem c_X4 (l : Launch) (D : va_G) (h0 sz : Nat) : Met l yX4_init (Cond.code yX4_init cX4_init 1 none :: mm_TB) ({ frames := 2, cells := 1, slots := 60, locals := 64 }) (va_Pc [.ref h0] (fun U => U.heap.size = sz ∧ va_P D mm_K [(h0, .inr (4, [.null, .int 0, .int 0, .int 0]))] U.heap ∧ va_K D mm_K [] U ∧ va_D (fun _ => True) [(h0, .inr (4, [.null, .int 0, .int 0, .int 0]))])) (va_Qv (fun _ : Unit => True) (fun (_ : Unit) (t : State) => ∃ (q1 : Nat) (cA2 : ClassId), va_P D mm_K [(h0, .inr (4, [.ref q1, .int 0, .int 0, .int 0])), (q1, .inl (cA2, 60, .inl (fun _ => 0)))] t.heap ∧ va_K D mm_K [(cA2, .int)] t ∧ va_D (va_A [(h0, .inr (4, [.null, .int 0, .int 0, .int 0]))] sz) [(h0, .inr (4, [.ref q1, .int 0, .int 0, .int 0])), (q1, .inl (cA2, 60, .inl (fun _ => 0)))]) (va_A [(h0, .inr (4, [.null, .int 0, .int 0, .int 0]))] sz)) 1 60 (va_A [(h0, .inr (4, [.null, .int 0, .int 0, .int 0]))] sz) := by
  refine Met.ofW (cc := cX4_init) (maxL := 1) (ret := none) (by decide) rfl ?_
  intro p e s m args below meth c s₁ B hml hv
  obtain ⟨rfl, hsz, hP, hK, hD0⟩ := hv
  have hx := B.exec
  have hb := B.bytes
  have hr := B.returns
  have hts := atoms_spec (ws := Cond.code yX4_init cX4_init 1 none :: mm_TB) B.pre
  have htb : ∀ w ∈ mm_TB, w.before [.ref h0].toArray s = true := fun w hw => hts w (List.mem_cons_of_mem _ hw)
  have hown : s.vm.findClass RX4 = some m.cls := findClass_of_methodNamed B.named
  have hlocks := B.notSynchronized
  have hin : meth.name = "<init>" := (name_of_methodNamed B.named B.method).1
  subst hsz
  have hD := hD0.self (sz := s.heap.size)
  generalize hAe : va_A [(h0, .inr (4, [.null, .int 0, .int 0, .int 0]))] s.heap.size = A at hD ⊢
  have hA : ∀ q : Nat, s.heap.size ≤ q → A q := fun q h => by rw [← hAe]; exact Or.inr h
  have hS : va_S A s.heap s.heap [] := va_S.rf
  have hl := lv_entry ([.ref h0]) (n := 1) (Nat.le_of_ble_eq_true rfl)
  rw [lg_entry_eq]
  generalize (lg_sl ([.ref h0]) ++ List.replicate (1 - (lg_sl ([.ref h0])).length) Slot.unset).toArray = ls at hl ⊢
  have hl : lv_has ls 1 [(0, .ref h0)] := hl
  refine lv_aload_n hx hb di_4_0 rfl (lv_at hl 0 rfl) ?_
  refine W.objInit hx hb hown (htb _ wo_4) (htb _ wo_inst) (htb _ wo_code) rfl (by rw [hml]; exact hl.1) rfl di_4_1 (Nat.le_of_ble_eq_true rfl) (Nat.le_of_ble_eq_true rfl) ?_
  refine W.eq (g2 := F0 m 4 ls []) rfl ?_
  refine lv_aload_n hx hb di_4_4 rfl (lv_at hl 0 rfl) ?_
  refine lv_bipush (v := 60) hx hb di_4_5 (by decide) ?_
  refine va_newa (atype := .int) (ty := .int) (a0 := (60, .inl (fun _ => 0))) hx hb (htb _ wa_int) rfl hK hP hD hS hA (fun _ => rfl) (by decide) rfl (by decide) (Nat.le_of_ble_eq_true rfl) (Nat.le_of_ble_eq_true rfl) di_4_7 (fun q1 cA2 H hK hP hD hS => ?_)
  have hP : va_P D mm_K [(h0, .inr (4, [.null, .int 0, .int 0, .int 0])), (q1, .inl (cA2, 60, .inl (fun _ => 0)))] H := hP
  have hD : va_D A [(h0, .inr (4, [.null, .int 0, .int 0, .int 0])), (q1, .inl (cA2, 60, .inl (fun _ => 0)))] := hD
  have hK : va_K D mm_K [(cA2, .int)] s := hK
  refine va_putF (D := D) (ci := 4) (v := .ref q1) (ty := .array .int) (C := RX4) (T := TX4) (N := 4) hx hb htb mu_4 tyX4 tyX4_ok nmX4 hown hK hP hD hS 0 rfl rfl 0 (by decide) (htb _ wf_4_9) (fun _ h9 => h9) rfl hin rfl (by decide +kernel) rfl rfl (Nat.le_of_ble_eq_true rfl) di_4_9 (fun H locs hP hD hS => ?_)
  have hP : va_P D mm_K [(h0, .inr (4, [.ref q1, .int 0, .int 0, .int 0])), (q1, .inl (cA2, 60, .inl (fun _ => 0)))] H := hP
  have hD : va_D A [(h0, .inr (4, [.ref q1, .int 0, .int 0, .int 0])), (q1, .inl (cA2, 60, .inl (fun _ => 0)))] := hD
  refine W.widen (k := 1) (n := 60) (Nat.le_of_ble_eq_true rfl) (Nat.le_of_ble_eq_true rfl) ?_
  exact W.vret hx hb hr (fun t ht hW => ⟨⟨(), rfl, trivial, q1, cA2, by rw [ht]; exact hP, va_K.moved hW.alike hK, hD⟩, hS.F ht⟩) hS.2.2 di_4_12
theorem wo_3 : Cond.methodLink RX3 1 objectInit ∈ mm_TB := (mm_t1 (w := .methodLink RX3 1 objectInit) 52 (by decide +kernel) (by decide +kernel))
set_option maxHeartbeats 4000000 in
set_option maxRecDepth 100000 in
theorem c_X3 (l : Launch) (D : va_G) (h0 sz : Nat) : Met l yX3_init (Cond.code yX3_init cX3_init 1 none :: mm_TB) ({ frames := 2, cells := 0, slots := 0, locals := 64 }) (va_Pc [.ref h0] (fun U => U.heap.size = sz ∧ va_P D mm_K [(h0, .inr (3, [.int 0, .int 0, .long 0]))] U.heap ∧ va_K D mm_K [] U ∧ va_D (fun _ => True) [(h0, .inr (3, [.int 0, .int 0, .long 0]))])) (va_Qv (fun _ : Unit => True) (fun (_ : Unit) (t : State) => va_P D mm_K [(h0, .inr (3, [.int 0, .int 0, .long 0]))] t.heap ∧ va_K D mm_K [] t ∧ va_D (va_A [(h0, .inr (3, [.int 0, .int 0, .long 0]))] sz) [(h0, .inr (3, [.int 0, .int 0, .long 0]))]) (va_A [(h0, .inr (3, [.int 0, .int 0, .long 0]))] sz)) 0 0 (va_A [(h0, .inr (3, [.int 0, .int 0, .long 0]))] sz) := by
  refine Met.ofW (cc := cX3_init) (maxL := 1) (ret := none) (by decide) rfl ?_
  intro p e s m args below meth c s₁ B hml hv
  obtain ⟨rfl, hsz, hP, hK, hD0⟩ := hv
  have hx := B.exec
  have hb := B.bytes
  have hr := B.returns
  have hts := atoms_spec (ws := Cond.code yX3_init cX3_init 1 none :: mm_TB) B.pre
  have htb : ∀ w ∈ mm_TB, w.before [.ref h0].toArray s = true := fun w hw => hts w (List.mem_cons_of_mem _ hw)
  have hown : s.vm.findClass RX3 = some m.cls := findClass_of_methodNamed B.named
  have hlocks := B.notSynchronized
  have hin : meth.name = "<init>" := (name_of_methodNamed B.named B.method).1
  subst hsz
  have hD := hD0.self (sz := s.heap.size)
  generalize hAe : va_A [(h0, .inr (3, [.int 0, .int 0, .long 0]))] s.heap.size = A at hD ⊢
  have hA : ∀ q : Nat, s.heap.size ≤ q → A q := fun q h => by rw [← hAe]; exact Or.inr h
  have hS : va_S A s.heap s.heap [] := va_S.rf
  have hl := lv_entry ([.ref h0]) (n := 1) (Nat.le_of_ble_eq_true rfl)
  rw [lg_entry_eq]
  generalize (lg_sl ([.ref h0]) ++ List.replicate (1 - (lg_sl ([.ref h0])).length) Slot.unset).toArray = ls at hl ⊢
  have hl : lv_has ls 1 [(0, .ref h0)] := hl
  refine lv_aload_n hx hb di_3_0 rfl (lv_at hl 0 rfl) ?_
  refine W.objInit hx hb hown (htb _ wo_3) (htb _ wo_inst) (htb _ wo_code) rfl (by rw [hml]; exact hl.1) rfl di_3_1 (Nat.le_of_ble_eq_true rfl) (Nat.le_of_ble_eq_true rfl) ?_
  refine W.eq (g2 := F0 m 4 ls []) rfl ?_
  refine W.widen (k := 0) (n := 0) (Nat.le_of_ble_eq_true rfl) (Nat.le_of_ble_eq_true rfl) ?_
  exact W.vret hx hb hr (fun t ht hW => ⟨⟨(), rfl, trivial, by rw [ht]; exact hP, va_K.moved hW.alike hK, hD⟩, hS.F ht⟩) hS.2.2 di_3_4
theorem wo_2 : Cond.methodLink RX2 3 objectInit ∈ mm_TB := (mm_t1 (w := .methodLink RX2 3 objectInit) 71 (by decide +kernel) (by decide +kernel))
theorem wf_2_11 : Cond.fieldLink RX2 11 "PondRings$Pond" "ripples" "[J" ∈ mm_TB := (mm_t1 (w := .fieldLink RX2 11 "PondRings$Pond" "ripples" "[J") 72 (by decide +kernel) (by decide +kernel))
theorem wf_2_15 : Cond.fieldLink RX2 15 "PondRings$Pond" "depths" "[I" ∈ mm_TB := (mm_t1 (w := .fieldLink RX2 15 "PondRings$Pond" "depths" "[I") 73 (by decide +kernel) (by decide +kernel))
set_option maxHeartbeats 4000000 in
set_option maxRecDepth 100000 in
theorem c_X2 (l : Launch) (D : va_G) (h0 sz : Nat) : Met l yX2_init (Cond.code yX2_init cX2_init 1 none :: mm_TB) ({ frames := 2, cells := 2, slots := 1806, locals := 64 }) (va_Pc [.ref h0] (fun U => U.heap.size = sz ∧ va_P D mm_K [(h0, .inr (2, [.null, .null, .long 0, .long 0, .long 0, .int 0, .int 0, .long 0]))] U.heap ∧ va_K D mm_K [] U ∧ va_D (fun _ => True) [(h0, .inr (2, [.null, .null, .long 0, .long 0, .long 0, .int 0, .int 0, .long 0]))])) (va_Qv (fun _ : Unit => True) (fun (_ : Unit) (t : State) => ∃ (q1 : Nat) (q3 : Nat) (cA2 : ClassId) (cA4 : ClassId), va_P D mm_K [(h0, .inr (2, [.ref q1, .ref q3, .long 0, .long 0, .long 0, .int 0, .int 0, .long 0])), (q1, .inl (cA2, 1764, .inr (.inl (fun _ => 0)))), (q3, .inl (cA4, 42, .inl (fun _ => 0)))] t.heap ∧ va_K D mm_K [(cA2, .long), (cA4, .int)] t ∧ va_D (va_A [(h0, .inr (2, [.null, .null, .long 0, .long 0, .long 0, .int 0, .int 0, .long 0]))] sz) [(h0, .inr (2, [.ref q1, .ref q3, .long 0, .long 0, .long 0, .int 0, .int 0, .long 0])), (q1, .inl (cA2, 1764, .inr (.inl (fun _ => 0)))), (q3, .inl (cA4, 42, .inl (fun _ => 0)))]) (va_A [(h0, .inr (2, [.null, .null, .long 0, .long 0, .long 0, .int 0, .int 0, .long 0]))] sz)) 2 1806 (va_A [(h0, .inr (2, [.null, .null, .long 0, .long 0, .long 0, .int 0, .int 0, .long 0]))] sz) := by
  refine Met.ofW (cc := cX2_init) (maxL := 1) (ret := none) (by decide) rfl ?_
  intro p e s m args below meth c s₁ B hml hv
  obtain ⟨rfl, hsz, hP, hK, hD0⟩ := hv
  have hx := B.exec
  have hb := B.bytes
  have hr := B.returns
  have hts := atoms_spec (ws := Cond.code yX2_init cX2_init 1 none :: mm_TB) B.pre
  have htb : ∀ w ∈ mm_TB, w.before [.ref h0].toArray s = true := fun w hw => hts w (List.mem_cons_of_mem _ hw)
  have hown : s.vm.findClass RX2 = some m.cls := findClass_of_methodNamed B.named
  have hlocks := B.notSynchronized
  have hin : meth.name = "<init>" := (name_of_methodNamed B.named B.method).1
  subst hsz
  have hD := hD0.self (sz := s.heap.size)
  generalize hAe : va_A [(h0, .inr (2, [.null, .null, .long 0, .long 0, .long 0, .int 0, .int 0, .long 0]))] s.heap.size = A at hD ⊢
  have hA : ∀ q : Nat, s.heap.size ≤ q → A q := fun q h => by rw [← hAe]; exact Or.inr h
  have hS : va_S A s.heap s.heap [] := va_S.rf
  have hl := lv_entry ([.ref h0]) (n := 1) (Nat.le_of_ble_eq_true rfl)
  rw [lg_entry_eq]
  generalize (lg_sl ([.ref h0]) ++ List.replicate (1 - (lg_sl ([.ref h0])).length) Slot.unset).toArray = ls at hl ⊢
  have hl : lv_has ls 1 [(0, .ref h0)] := hl
  refine lv_aload_n hx hb di_2_0 rfl (lv_at hl 0 rfl) ?_
  refine W.objInit hx hb hown (htb _ wo_2) (htb _ wo_inst) (htb _ wo_code) rfl (by rw [hml]; exact hl.1) rfl di_2_1 (Nat.le_of_ble_eq_true rfl) (Nat.le_of_ble_eq_true rfl) ?_
  refine W.eq (g2 := F0 m 4 ls []) rfl ?_
  refine lv_aload_n hx hb di_2_4 rfl (lv_at hl 0 rfl) ?_
  refine lv_sipush (v := 1764) hx hb di_2_5 (by decide) ?_
  refine va_newa (atype := .long) (ty := .long) (a0 := (1764, .inr (.inl (fun _ => 0)))) hx hb (htb _ wa_long) rfl hK hP hD hS hA (fun _ => rfl) (by decide) rfl (by decide) (Nat.le_of_ble_eq_true rfl) (Nat.le_of_ble_eq_true rfl) di_2_8 (fun q1 cA2 H hK hP hD hS => ?_)
  have hP : va_P D mm_K [(h0, .inr (2, [.null, .null, .long 0, .long 0, .long 0, .int 0, .int 0, .long 0])), (q1, .inl (cA2, 1764, .inr (.inl (fun _ => 0))))] H := hP
  have hD : va_D A [(h0, .inr (2, [.null, .null, .long 0, .long 0, .long 0, .int 0, .int 0, .long 0])), (q1, .inl (cA2, 1764, .inr (.inl (fun _ => 0))))] := hD
  have hK : va_K D mm_K [(cA2, .long)] s := hK
  refine va_putF (D := D) (ci := 2) (v := .ref q1) (ty := .array .long) (C := RX2) (T := TX2) (N := 8) hx hb htb mu_2 tyX2 tyX2_ok nmX2 hown hK hP hD hS 0 rfl rfl 0 (by decide) (htb _ wf_2_11) (fun _ h9 => h9) rfl hin rfl (by decide +kernel) rfl rfl (Nat.le_of_ble_eq_true rfl) di_2_10 (fun H locs hP hD hS => ?_)
  have hP : va_P D mm_K [(h0, .inr (2, [.ref q1, .null, .long 0, .long 0, .long 0, .int 0, .int 0, .long 0])), (q1, .inl (cA2, 1764, .inr (.inl (fun _ => 0))))] H := hP
  have hD : va_D A [(h0, .inr (2, [.ref q1, .null, .long 0, .long 0, .long 0, .int 0, .int 0, .long 0])), (q1, .inl (cA2, 1764, .inr (.inl (fun _ => 0))))] := hD
  refine lv_aload_n hx hb di_2_13 rfl (lv_at hl 0 rfl) ?_
  refine lv_bipush (v := 42) hx hb di_2_14 (by decide) ?_
  refine va_newa (atype := .int) (ty := .int) (a0 := (42, .inl (fun _ => 0))) hx hb (htb _ wa_int) rfl hK hP hD hS hA (fun _ => rfl) (by decide) rfl (by decide) (Nat.le_of_ble_eq_true rfl) (Nat.le_of_ble_eq_true rfl) di_2_16 (fun q3 cA4 H hK hP hD hS => ?_)
  have hP : va_P D mm_K [(h0, .inr (2, [.ref q1, .null, .long 0, .long 0, .long 0, .int 0, .int 0, .long 0])), (q1, .inl (cA2, 1764, .inr (.inl (fun _ => 0)))), (q3, .inl (cA4, 42, .inl (fun _ => 0)))] H := hP
  have hD : va_D A [(h0, .inr (2, [.ref q1, .null, .long 0, .long 0, .long 0, .int 0, .int 0, .long 0])), (q1, .inl (cA2, 1764, .inr (.inl (fun _ => 0)))), (q3, .inl (cA4, 42, .inl (fun _ => 0)))] := hD
  have hK : va_K D mm_K [(cA2, .long), (cA4, .int)] s := hK
  refine va_putF (D := D) (ci := 2) (v := .ref q3) (ty := .array .int) (C := RX2) (T := TX2) (N := 8) hx hb htb mu_2 tyX2 tyX2_ok nmX2 hown hK hP hD hS 0 rfl rfl 1 (by decide) (htb _ wf_2_15) (fun _ h9 => h9) rfl hin rfl (by decide +kernel) rfl rfl (Nat.le_of_ble_eq_true rfl) di_2_18 (fun H locs hP hD hS => ?_)
  have hP : va_P D mm_K [(h0, .inr (2, [.ref q1, .ref q3, .long 0, .long 0, .long 0, .int 0, .int 0, .long 0])), (q1, .inl (cA2, 1764, .inr (.inl (fun _ => 0)))), (q3, .inl (cA4, 42, .inl (fun _ => 0)))] H := hP
  have hD : va_D A [(h0, .inr (2, [.ref q1, .ref q3, .long 0, .long 0, .long 0, .int 0, .int 0, .long 0])), (q1, .inl (cA2, 1764, .inr (.inl (fun _ => 0)))), (q3, .inl (cA4, 42, .inl (fun _ => 0)))] := hD
  refine W.widen (k := 2) (n := 1806) (Nat.le_of_ble_eq_true rfl) (Nat.le_of_ble_eq_true rfl) ?_
  exact W.vret hx hb hr (fun t ht hW => ⟨⟨(), rfl, trivial, q1, q3, cA2, cA4, by rw [ht]; exact hP, va_K.moved hW.alike hK, hD⟩, hS.F ht⟩) hS.2.2 di_2_21
theorem wo_1 : Cond.methodLink RX1 1 objectInit ∈ mm_TB := (mm_t1 (w := .methodLink RX1 1 objectInit) 132 (by decide +kernel) (by decide +kernel))
set_option maxHeartbeats 4000000 in
set_option maxRecDepth 100000 in
theorem c_X1 (l : Launch) (D : va_G) (h0 sz : Nat) : Met l yX1_init (Cond.code yX1_init cX1_init 1 none :: mm_TB) ({ frames := 2, cells := 0, slots := 0, locals := 64 }) (va_Pc [.ref h0] (fun U => U.heap.size = sz ∧ va_P D mm_K [(h0, .inr (1, [.int 0, .int 0]))] U.heap ∧ va_K D mm_K [] U ∧ va_D (fun _ => True) [(h0, .inr (1, [.int 0, .int 0]))])) (va_Qv (fun _ : Unit => True) (fun (_ : Unit) (t : State) => va_P D mm_K [(h0, .inr (1, [.int 0, .int 0]))] t.heap ∧ va_K D mm_K [] t ∧ va_D (va_A [(h0, .inr (1, [.int 0, .int 0]))] sz) [(h0, .inr (1, [.int 0, .int 0]))]) (va_A [(h0, .inr (1, [.int 0, .int 0]))] sz)) 0 0 (va_A [(h0, .inr (1, [.int 0, .int 0]))] sz) := by
  refine Met.ofW (cc := cX1_init) (maxL := 1) (ret := none) (by decide) rfl ?_
  intro p e s m args below meth c s₁ B hml hv
  obtain ⟨rfl, hsz, hP, hK, hD0⟩ := hv
  have hx := B.exec
  have hb := B.bytes
  have hr := B.returns
  have hts := atoms_spec (ws := Cond.code yX1_init cX1_init 1 none :: mm_TB) B.pre
  have htb : ∀ w ∈ mm_TB, w.before [.ref h0].toArray s = true := fun w hw => hts w (List.mem_cons_of_mem _ hw)
  have hown : s.vm.findClass RX1 = some m.cls := findClass_of_methodNamed B.named
  have hlocks := B.notSynchronized
  have hin : meth.name = "<init>" := (name_of_methodNamed B.named B.method).1
  subst hsz
  have hD := hD0.self (sz := s.heap.size)
  generalize hAe : va_A [(h0, .inr (1, [.int 0, .int 0]))] s.heap.size = A at hD ⊢
  have hA : ∀ q : Nat, s.heap.size ≤ q → A q := fun q h => by rw [← hAe]; exact Or.inr h
  have hS : va_S A s.heap s.heap [] := va_S.rf
  have hl := lv_entry ([.ref h0]) (n := 1) (Nat.le_of_ble_eq_true rfl)
  rw [lg_entry_eq]
  generalize (lg_sl ([.ref h0]) ++ List.replicate (1 - (lg_sl ([.ref h0])).length) Slot.unset).toArray = ls at hl ⊢
  have hl : lv_has ls 1 [(0, .ref h0)] := hl
  refine lv_aload_n hx hb di_1_0 rfl (lv_at hl 0 rfl) ?_
  refine W.objInit hx hb hown (htb _ wo_1) (htb _ wo_inst) (htb _ wo_code) rfl (by rw [hml]; exact hl.1) rfl di_1_1 (Nat.le_of_ble_eq_true rfl) (Nat.le_of_ble_eq_true rfl) ?_
  refine W.eq (g2 := F0 m 4 ls []) rfl ?_
  refine W.widen (k := 0) (n := 0) (Nat.le_of_ble_eq_true rfl) (Nat.le_of_ble_eq_true rfl) ?_
  exact W.vret hx hb hr (fun t ht hW => ⟨⟨(), rfl, trivial, by rw [ht]; exact hP, va_K.moved hW.alike hK, hD⟩, hS.F ht⟩) hS.2.2 di_1_4
theorem wo_5 : Cond.methodLink RX5 3 objectInit ∈ mm_TB := (mm_t1 (w := .methodLink RX5 3 objectInit) 147 (by decide +kernel) (by decide +kernel))
theorem wf_5_11 : Cond.fieldLink RX5 11 "PondRings$Timetable" "after" "[J" ∈ mm_TB := (mm_t1 (w := .fieldLink RX5 11 "PondRings$Timetable" "after" "[J") 148 (by decide +kernel) (by decide +kernel))
theorem wf_5_15 : Cond.fieldLink RX5 15 "PondRings$Timetable" "before" "[J" ∈ mm_TB := (mm_t1 (w := .fieldLink RX5 15 "PondRings$Timetable" "before" "[J") 149 (by decide +kernel) (by decide +kernel))
theorem wf_5_18 : Cond.fieldLink RX5 18 "PondRings$Timetable" "left" "[J" ∈ mm_TB := (mm_t1 (w := .fieldLink RX5 18 "PondRings$Timetable" "left" "[J") 150 (by decide +kernel) (by decide +kernel))
theorem wf_5_21 : Cond.fieldLink RX5 21 "PondRings$Timetable" "weights" "[I" ∈ mm_TB := (mm_t1 (w := .fieldLink RX5 21 "PondRings$Timetable" "weights" "[I") 151 (by decide +kernel) (by decide +kernel))
theorem wf_5_25 : Cond.fieldLink RX5 25 "PondRings$Timetable" "minutes" "[I" ∈ mm_TB := (mm_t1 (w := .fieldLink RX5 25 "PondRings$Timetable" "minutes" "[I") 153 (by decide +kernel) (by decide +kernel))
theorem wf_5_28 : Cond.fieldLink RX5 28 "PondRings$Timetable" "plan" "[I" ∈ mm_TB := (mm_t1 (w := .fieldLink RX5 28 "PondRings$Timetable" "plan" "[I") 155 (by decide +kernel) (by decide +kernel))
set_option maxHeartbeats 4000000 in
set_option maxRecDepth 100000 in
theorem c_X5 (l : Launch) (D : va_G) (h0 sz : Nat) : Met l yX5_init (Cond.code yX5_init cX5_init 1 none :: mm_TB) ({ frames := 2, cells := 6, slots := 132, locals := 64 }) (va_Pc [.ref h0] (fun U => U.heap.size = sz ∧ va_P D mm_K [(h0, .inr (5, [.null, .null, .null, .null, .int 0, .null, .null, .int 0]))] U.heap ∧ va_K D mm_K [] U ∧ va_D (fun _ => True) [(h0, .inr (5, [.null, .null, .null, .null, .int 0, .null, .null, .int 0]))])) (va_Qv (fun _ : Unit => True) (fun (_ : Unit) (t : State) => ∃ (q1 : Nat) (q3 : Nat) (q5 : Nat) (q7 : Nat) (q9 : Nat) (q11 : Nat) (cA2 : ClassId) (cA4 : ClassId) (cA6 : ClassId) (cA8 : ClassId) (cA10 : ClassId) (cA12 : ClassId), va_P D mm_K [(h0, .inr (5, [.ref q1, .ref q3, .ref q5, .ref q7, .int 0, .ref q9, .ref q11, .int 0])), (q1, .inl (cA2, 36, .inr (.inl (fun _ => 0)))), (q3, .inl (cA4, 36, .inr (.inl (fun _ => 0)))), (q5, .inl (cA6, 42, .inr (.inl (fun _ => 0)))), (q7, .inl (cA8, 6, .inl (fun _ => 0))), (q9, .inl (cA10, 6, .inl (fun _ => 0))), (q11, .inl (cA12, 6, .inl (fun _ => 0)))] t.heap ∧ va_K D mm_K [(cA2, .long), (cA4, .long), (cA6, .long), (cA8, .int), (cA10, .int), (cA12, .int)] t ∧ va_D (va_A [(h0, .inr (5, [.null, .null, .null, .null, .int 0, .null, .null, .int 0]))] sz) [(h0, .inr (5, [.ref q1, .ref q3, .ref q5, .ref q7, .int 0, .ref q9, .ref q11, .int 0])), (q1, .inl (cA2, 36, .inr (.inl (fun _ => 0)))), (q3, .inl (cA4, 36, .inr (.inl (fun _ => 0)))), (q5, .inl (cA6, 42, .inr (.inl (fun _ => 0)))), (q7, .inl (cA8, 6, .inl (fun _ => 0))), (q9, .inl (cA10, 6, .inl (fun _ => 0))), (q11, .inl (cA12, 6, .inl (fun _ => 0)))]) (va_A [(h0, .inr (5, [.null, .null, .null, .null, .int 0, .null, .null, .int 0]))] sz)) 6 132 (va_A [(h0, .inr (5, [.null, .null, .null, .null, .int 0, .null, .null, .int 0]))] sz) := by
  refine Met.ofW (cc := cX5_init) (maxL := 1) (ret := none) (by decide) rfl ?_
  intro p e s m args below meth c s₁ B hml hv
  obtain ⟨rfl, hsz, hP, hK, hD0⟩ := hv
  have hx := B.exec
  have hb := B.bytes
  have hr := B.returns
  have hts := atoms_spec (ws := Cond.code yX5_init cX5_init 1 none :: mm_TB) B.pre
  have htb : ∀ w ∈ mm_TB, w.before [.ref h0].toArray s = true := fun w hw => hts w (List.mem_cons_of_mem _ hw)
  have hown : s.vm.findClass RX5 = some m.cls := findClass_of_methodNamed B.named
  have hlocks := B.notSynchronized
  have hin : meth.name = "<init>" := (name_of_methodNamed B.named B.method).1
  subst hsz
  have hD := hD0.self (sz := s.heap.size)
  generalize hAe : va_A [(h0, .inr (5, [.null, .null, .null, .null, .int 0, .null, .null, .int 0]))] s.heap.size = A at hD ⊢
  have hA : ∀ q : Nat, s.heap.size ≤ q → A q := fun q h => by rw [← hAe]; exact Or.inr h
  have hS : va_S A s.heap s.heap [] := va_S.rf
  have hl := lv_entry ([.ref h0]) (n := 1) (Nat.le_of_ble_eq_true rfl)
  rw [lg_entry_eq]
  generalize (lg_sl ([.ref h0]) ++ List.replicate (1 - (lg_sl ([.ref h0])).length) Slot.unset).toArray = ls at hl ⊢
  have hl : lv_has ls 1 [(0, .ref h0)] := hl
  refine lv_aload_n hx hb di_5_0 rfl (lv_at hl 0 rfl) ?_
  refine W.objInit hx hb hown (htb _ wo_5) (htb _ wo_inst) (htb _ wo_code) rfl (by rw [hml]; exact hl.1) rfl di_5_1 (Nat.le_of_ble_eq_true rfl) (Nat.le_of_ble_eq_true rfl) ?_
  refine W.eq (g2 := F0 m 4 ls []) rfl ?_
  refine lv_aload_n hx hb di_5_4 rfl (lv_at hl 0 rfl) ?_
  refine lv_bipush (v := 36) hx hb di_5_5 (by decide) ?_
  refine va_newa (atype := .long) (ty := .long) (a0 := (36, .inr (.inl (fun _ => 0)))) hx hb (htb _ wa_long) rfl hK hP hD hS hA (fun _ => rfl) (by decide) rfl (by decide) (Nat.le_of_ble_eq_true rfl) (Nat.le_of_ble_eq_true rfl) di_5_7 (fun q1 cA2 H hK hP hD hS => ?_)
  have hP : va_P D mm_K [(h0, .inr (5, [.null, .null, .null, .null, .int 0, .null, .null, .int 0])), (q1, .inl (cA2, 36, .inr (.inl (fun _ => 0))))] H := hP
  have hD : va_D A [(h0, .inr (5, [.null, .null, .null, .null, .int 0, .null, .null, .int 0])), (q1, .inl (cA2, 36, .inr (.inl (fun _ => 0))))] := hD
  have hK : va_K D mm_K [(cA2, .long)] s := hK
  refine va_putF (D := D) (ci := 5) (v := .ref q1) (ty := .array .long) (C := RX5) (T := TX5) (N := 8) hx hb htb mu_5 tyX5 tyX5_ok nmX5 hown hK hP hD hS 0 rfl rfl 0 (by decide) (htb _ wf_5_11) (fun _ h9 => h9) rfl hin rfl (by decide +kernel) rfl rfl (Nat.le_of_ble_eq_true rfl) di_5_9 (fun H locs hP hD hS => ?_)
  have hP : va_P D mm_K [(h0, .inr (5, [.ref q1, .null, .null, .null, .int 0, .null, .null, .int 0])), (q1, .inl (cA2, 36, .inr (.inl (fun _ => 0))))] H := hP
  have hD : va_D A [(h0, .inr (5, [.ref q1, .null, .null, .null, .int 0, .null, .null, .int 0])), (q1, .inl (cA2, 36, .inr (.inl (fun _ => 0))))] := hD
  refine lv_aload_n hx hb di_5_12 rfl (lv_at hl 0 rfl) ?_
  refine lv_bipush (v := 36) hx hb di_5_13 (by decide) ?_
  refine va_newa (atype := .long) (ty := .long) (a0 := (36, .inr (.inl (fun _ => 0)))) hx hb (htb _ wa_long) rfl hK hP hD hS hA (fun _ => rfl) (by decide) rfl (by decide) (Nat.le_of_ble_eq_true rfl) (Nat.le_of_ble_eq_true rfl) di_5_15 (fun q3 cA4 H hK hP hD hS => ?_)
  have hP : va_P D mm_K [(h0, .inr (5, [.ref q1, .null, .null, .null, .int 0, .null, .null, .int 0])), (q1, .inl (cA2, 36, .inr (.inl (fun _ => 0)))), (q3, .inl (cA4, 36, .inr (.inl (fun _ => 0))))] H := hP
  have hD : va_D A [(h0, .inr (5, [.ref q1, .null, .null, .null, .int 0, .null, .null, .int 0])), (q1, .inl (cA2, 36, .inr (.inl (fun _ => 0)))), (q3, .inl (cA4, 36, .inr (.inl (fun _ => 0))))] := hD
  have hK : va_K D mm_K [(cA2, .long), (cA4, .long)] s := hK
  refine va_putF (D := D) (ci := 5) (v := .ref q3) (ty := .array .long) (C := RX5) (T := TX5) (N := 8) hx hb htb mu_5 tyX5 tyX5_ok nmX5 hown hK hP hD hS 0 rfl rfl 1 (by decide) (htb _ wf_5_15) (fun _ h9 => h9) rfl hin rfl (by decide +kernel) rfl rfl (Nat.le_of_ble_eq_true rfl) di_5_17 (fun H locs hP hD hS => ?_)
  have hP : va_P D mm_K [(h0, .inr (5, [.ref q1, .ref q3, .null, .null, .int 0, .null, .null, .int 0])), (q1, .inl (cA2, 36, .inr (.inl (fun _ => 0)))), (q3, .inl (cA4, 36, .inr (.inl (fun _ => 0))))] H := hP
  have hD : va_D A [(h0, .inr (5, [.ref q1, .ref q3, .null, .null, .int 0, .null, .null, .int 0])), (q1, .inl (cA2, 36, .inr (.inl (fun _ => 0)))), (q3, .inl (cA4, 36, .inr (.inl (fun _ => 0))))] := hD
  refine lv_aload_n hx hb di_5_20 rfl (lv_at hl 0 rfl) ?_
  refine lv_bipush (v := 42) hx hb di_5_21 (by decide) ?_
  refine va_newa (atype := .long) (ty := .long) (a0 := (42, .inr (.inl (fun _ => 0)))) hx hb (htb _ wa_long) rfl hK hP hD hS hA (fun _ => rfl) (by decide) rfl (by decide) (Nat.le_of_ble_eq_true rfl) (Nat.le_of_ble_eq_true rfl) di_5_23 (fun q5 cA6 H hK hP hD hS => ?_)
  have hP : va_P D mm_K [(h0, .inr (5, [.ref q1, .ref q3, .null, .null, .int 0, .null, .null, .int 0])), (q1, .inl (cA2, 36, .inr (.inl (fun _ => 0)))), (q3, .inl (cA4, 36, .inr (.inl (fun _ => 0)))), (q5, .inl (cA6, 42, .inr (.inl (fun _ => 0))))] H := hP
  have hD : va_D A [(h0, .inr (5, [.ref q1, .ref q3, .null, .null, .int 0, .null, .null, .int 0])), (q1, .inl (cA2, 36, .inr (.inl (fun _ => 0)))), (q3, .inl (cA4, 36, .inr (.inl (fun _ => 0)))), (q5, .inl (cA6, 42, .inr (.inl (fun _ => 0))))] := hD
  have hK : va_K D mm_K [(cA2, .long), (cA4, .long), (cA6, .long)] s := hK
  refine va_putF (D := D) (ci := 5) (v := .ref q5) (ty := .array .long) (C := RX5) (T := TX5) (N := 8) hx hb htb mu_5 tyX5 tyX5_ok nmX5 hown hK hP hD hS 0 rfl rfl 2 (by decide) (htb _ wf_5_18) (fun _ h9 => h9) rfl hin rfl (by decide +kernel) rfl rfl (Nat.le_of_ble_eq_true rfl) di_5_25 (fun H locs hP hD hS => ?_)
  have hP : va_P D mm_K [(h0, .inr (5, [.ref q1, .ref q3, .ref q5, .null, .int 0, .null, .null, .int 0])), (q1, .inl (cA2, 36, .inr (.inl (fun _ => 0)))), (q3, .inl (cA4, 36, .inr (.inl (fun _ => 0)))), (q5, .inl (cA6, 42, .inr (.inl (fun _ => 0))))] H := hP
  have hD : va_D A [(h0, .inr (5, [.ref q1, .ref q3, .ref q5, .null, .int 0, .null, .null, .int 0])), (q1, .inl (cA2, 36, .inr (.inl (fun _ => 0)))), (q3, .inl (cA4, 36, .inr (.inl (fun _ => 0)))), (q5, .inl (cA6, 42, .inr (.inl (fun _ => 0))))] := hD
  refine lv_aload_n hx hb di_5_28 rfl (lv_at hl 0 rfl) ?_
  refine lv_bipush (v := 6) hx hb di_5_29 (by decide) ?_
  refine va_newa (atype := .int) (ty := .int) (a0 := (6, .inl (fun _ => 0))) hx hb (htb _ wa_int) rfl hK hP hD hS hA (fun _ => rfl) (by decide) rfl (by decide) (Nat.le_of_ble_eq_true rfl) (Nat.le_of_ble_eq_true rfl) di_5_31 (fun q7 cA8 H hK hP hD hS => ?_)
  have hP : va_P D mm_K [(h0, .inr (5, [.ref q1, .ref q3, .ref q5, .null, .int 0, .null, .null, .int 0])), (q1, .inl (cA2, 36, .inr (.inl (fun _ => 0)))), (q3, .inl (cA4, 36, .inr (.inl (fun _ => 0)))), (q5, .inl (cA6, 42, .inr (.inl (fun _ => 0)))), (q7, .inl (cA8, 6, .inl (fun _ => 0)))] H := hP
  have hD : va_D A [(h0, .inr (5, [.ref q1, .ref q3, .ref q5, .null, .int 0, .null, .null, .int 0])), (q1, .inl (cA2, 36, .inr (.inl (fun _ => 0)))), (q3, .inl (cA4, 36, .inr (.inl (fun _ => 0)))), (q5, .inl (cA6, 42, .inr (.inl (fun _ => 0)))), (q7, .inl (cA8, 6, .inl (fun _ => 0)))] := hD
  have hK : va_K D mm_K [(cA2, .long), (cA4, .long), (cA6, .long), (cA8, .int)] s := hK
  refine va_putF (D := D) (ci := 5) (v := .ref q7) (ty := .array .int) (C := RX5) (T := TX5) (N := 8) hx hb htb mu_5 tyX5 tyX5_ok nmX5 hown hK hP hD hS 0 rfl rfl 3 (by decide) (htb _ wf_5_21) (fun _ h9 => h9) rfl hin rfl (by decide +kernel) rfl rfl (Nat.le_of_ble_eq_true rfl) di_5_33 (fun H locs hP hD hS => ?_)
  have hP : va_P D mm_K [(h0, .inr (5, [.ref q1, .ref q3, .ref q5, .ref q7, .int 0, .null, .null, .int 0])), (q1, .inl (cA2, 36, .inr (.inl (fun _ => 0)))), (q3, .inl (cA4, 36, .inr (.inl (fun _ => 0)))), (q5, .inl (cA6, 42, .inr (.inl (fun _ => 0)))), (q7, .inl (cA8, 6, .inl (fun _ => 0)))] H := hP
  have hD : va_D A [(h0, .inr (5, [.ref q1, .ref q3, .ref q5, .ref q7, .int 0, .null, .null, .int 0])), (q1, .inl (cA2, 36, .inr (.inl (fun _ => 0)))), (q3, .inl (cA4, 36, .inr (.inl (fun _ => 0)))), (q5, .inl (cA6, 42, .inr (.inl (fun _ => 0)))), (q7, .inl (cA8, 6, .inl (fun _ => 0)))] := hD
  refine lv_aload_n hx hb di_5_36 rfl (lv_at hl 0 rfl) ?_
  refine lv_bipush (v := 6) hx hb di_5_37 (by decide) ?_
  refine va_newa (atype := .int) (ty := .int) (a0 := (6, .inl (fun _ => 0))) hx hb (htb _ wa_int) rfl hK hP hD hS hA (fun _ => rfl) (by decide) rfl (by decide) (Nat.le_of_ble_eq_true rfl) (Nat.le_of_ble_eq_true rfl) di_5_39 (fun q9 cA10 H hK hP hD hS => ?_)
  have hP : va_P D mm_K [(h0, .inr (5, [.ref q1, .ref q3, .ref q5, .ref q7, .int 0, .null, .null, .int 0])), (q1, .inl (cA2, 36, .inr (.inl (fun _ => 0)))), (q3, .inl (cA4, 36, .inr (.inl (fun _ => 0)))), (q5, .inl (cA6, 42, .inr (.inl (fun _ => 0)))), (q7, .inl (cA8, 6, .inl (fun _ => 0))), (q9, .inl (cA10, 6, .inl (fun _ => 0)))] H := hP
  have hD : va_D A [(h0, .inr (5, [.ref q1, .ref q3, .ref q5, .ref q7, .int 0, .null, .null, .int 0])), (q1, .inl (cA2, 36, .inr (.inl (fun _ => 0)))), (q3, .inl (cA4, 36, .inr (.inl (fun _ => 0)))), (q5, .inl (cA6, 42, .inr (.inl (fun _ => 0)))), (q7, .inl (cA8, 6, .inl (fun _ => 0))), (q9, .inl (cA10, 6, .inl (fun _ => 0)))] := hD
  have hK : va_K D mm_K [(cA2, .long), (cA4, .long), (cA6, .long), (cA8, .int), (cA10, .int)] s := hK
  refine va_putF (D := D) (ci := 5) (v := .ref q9) (ty := .array .int) (C := RX5) (T := TX5) (N := 8) hx hb htb mu_5 tyX5 tyX5_ok nmX5 hown hK hP hD hS 0 rfl rfl 5 (by decide) (htb _ wf_5_25) (fun _ h9 => h9) rfl hin rfl (by decide +kernel) rfl rfl (Nat.le_of_ble_eq_true rfl) di_5_41 (fun H locs hP hD hS => ?_)
  have hP : va_P D mm_K [(h0, .inr (5, [.ref q1, .ref q3, .ref q5, .ref q7, .int 0, .ref q9, .null, .int 0])), (q1, .inl (cA2, 36, .inr (.inl (fun _ => 0)))), (q3, .inl (cA4, 36, .inr (.inl (fun _ => 0)))), (q5, .inl (cA6, 42, .inr (.inl (fun _ => 0)))), (q7, .inl (cA8, 6, .inl (fun _ => 0))), (q9, .inl (cA10, 6, .inl (fun _ => 0)))] H := hP
  have hD : va_D A [(h0, .inr (5, [.ref q1, .ref q3, .ref q5, .ref q7, .int 0, .ref q9, .null, .int 0])), (q1, .inl (cA2, 36, .inr (.inl (fun _ => 0)))), (q3, .inl (cA4, 36, .inr (.inl (fun _ => 0)))), (q5, .inl (cA6, 42, .inr (.inl (fun _ => 0)))), (q7, .inl (cA8, 6, .inl (fun _ => 0))), (q9, .inl (cA10, 6, .inl (fun _ => 0)))] := hD
  refine lv_aload_n hx hb di_5_44 rfl (lv_at hl 0 rfl) ?_
  refine lv_bipush (v := 6) hx hb di_5_45 (by decide) ?_
  refine va_newa (atype := .int) (ty := .int) (a0 := (6, .inl (fun _ => 0))) hx hb (htb _ wa_int) rfl hK hP hD hS hA (fun _ => rfl) (by decide) rfl (by decide) (Nat.le_of_ble_eq_true rfl) (Nat.le_of_ble_eq_true rfl) di_5_47 (fun q11 cA12 H hK hP hD hS => ?_)
  have hP : va_P D mm_K [(h0, .inr (5, [.ref q1, .ref q3, .ref q5, .ref q7, .int 0, .ref q9, .null, .int 0])), (q1, .inl (cA2, 36, .inr (.inl (fun _ => 0)))), (q3, .inl (cA4, 36, .inr (.inl (fun _ => 0)))), (q5, .inl (cA6, 42, .inr (.inl (fun _ => 0)))), (q7, .inl (cA8, 6, .inl (fun _ => 0))), (q9, .inl (cA10, 6, .inl (fun _ => 0))), (q11, .inl (cA12, 6, .inl (fun _ => 0)))] H := hP
  have hD : va_D A [(h0, .inr (5, [.ref q1, .ref q3, .ref q5, .ref q7, .int 0, .ref q9, .null, .int 0])), (q1, .inl (cA2, 36, .inr (.inl (fun _ => 0)))), (q3, .inl (cA4, 36, .inr (.inl (fun _ => 0)))), (q5, .inl (cA6, 42, .inr (.inl (fun _ => 0)))), (q7, .inl (cA8, 6, .inl (fun _ => 0))), (q9, .inl (cA10, 6, .inl (fun _ => 0))), (q11, .inl (cA12, 6, .inl (fun _ => 0)))] := hD
  have hK : va_K D mm_K [(cA2, .long), (cA4, .long), (cA6, .long), (cA8, .int), (cA10, .int), (cA12, .int)] s := hK
  refine va_putF (D := D) (ci := 5) (v := .ref q11) (ty := .array .int) (C := RX5) (T := TX5) (N := 8) hx hb htb mu_5 tyX5 tyX5_ok nmX5 hown hK hP hD hS 0 rfl rfl 6 (by decide) (htb _ wf_5_28) (fun _ h9 => h9) rfl hin rfl (by decide +kernel) rfl rfl (Nat.le_of_ble_eq_true rfl) di_5_49 (fun H locs hP hD hS => ?_)
  have hP : va_P D mm_K [(h0, .inr (5, [.ref q1, .ref q3, .ref q5, .ref q7, .int 0, .ref q9, .ref q11, .int 0])), (q1, .inl (cA2, 36, .inr (.inl (fun _ => 0)))), (q3, .inl (cA4, 36, .inr (.inl (fun _ => 0)))), (q5, .inl (cA6, 42, .inr (.inl (fun _ => 0)))), (q7, .inl (cA8, 6, .inl (fun _ => 0))), (q9, .inl (cA10, 6, .inl (fun _ => 0))), (q11, .inl (cA12, 6, .inl (fun _ => 0)))] H := hP
  have hD : va_D A [(h0, .inr (5, [.ref q1, .ref q3, .ref q5, .ref q7, .int 0, .ref q9, .ref q11, .int 0])), (q1, .inl (cA2, 36, .inr (.inl (fun _ => 0)))), (q3, .inl (cA4, 36, .inr (.inl (fun _ => 0)))), (q5, .inl (cA6, 42, .inr (.inl (fun _ => 0)))), (q7, .inl (cA8, 6, .inl (fun _ => 0))), (q9, .inl (cA10, 6, .inl (fun _ => 0))), (q11, .inl (cA12, 6, .inl (fun _ => 0)))] := hD
  refine W.widen (k := 6) (n := 132) (Nat.le_of_ble_eq_true rfl) (Nat.le_of_ble_eq_true rfl) ?_
  exact W.vret hx hb hr (fun t ht hW => ⟨⟨(), rfl, trivial, q1, q3, q5, q7, q9, q11, cA2, cA4, cA6, cA8, cA10, cA12, by rw [ht]; exact hP, va_K.moved hW.alike hK, hD⟩, hS.F ht⟩) hS.2.2 di_5_52
theorem wo_0 : Cond.methodLink RX0 3 objectInit ∈ mm_TB := (mm_t1 (w := .methodLink RX0 3 objectInit) 106 (by decide +kernel) (by decide +kernel))
theorem wf_0_9 : Cond.fieldLink RX0 9 "PondRings$Listing" "kinds" "[I" ∈ mm_TB := (mm_t1 (w := .fieldLink RX0 9 "PondRings$Listing" "kinds" "[I") 107 (by decide +kernel) (by decide +kernel))
theorem wf_0_15 : Cond.fieldLink RX0 15 "PondRings$Listing" "places" "[I" ∈ mm_TB := (mm_t1 (w := .fieldLink RX0 15 "PondRings$Listing" "places" "[I") 109 (by decide +kernel) (by decide +kernel))
theorem wf_0_18 : Cond.fieldLink RX0 18 "PondRings$Listing" "minutes" "[I" ∈ mm_TB := (mm_t1 (w := .fieldLink RX0 18 "PondRings$Listing" "minutes" "[I") 113 (by decide +kernel) (by decide +kernel))
set_option maxHeartbeats 4000000 in
set_option maxRecDepth 100000 in
theorem c_X0_8 (l : Launch) (D : va_G) (h0 sz : Nat) : Met l yX0_init (Cond.code yX0_init cX0_init 2 none :: mm_TB) ({ frames := 2, cells := 3, slots := 24, locals := 64 }) (va_Pc [.ref h0, .int (8 : Int32)] (fun U => U.heap.size = sz ∧ va_P D mm_K [(h0, .inr (0, [.null, .null, .null, .int 0]))] U.heap ∧ va_K D mm_K [] U ∧ va_D (fun _ => True) [(h0, .inr (0, [.null, .null, .null, .int 0]))])) (va_Qv (fun _ : Unit => True) (fun (_ : Unit) (t : State) => ∃ (q1 : Nat) (q3 : Nat) (q5 : Nat) (cA2 : ClassId) (cA4 : ClassId) (cA6 : ClassId), va_P D mm_K [(h0, .inr (0, [.ref q1, .ref q3, .ref q5, .int 0])), (q1, .inl (cA2, 8, .inl (fun _ => 0))), (q3, .inl (cA4, 8, .inl (fun _ => 0))), (q5, .inl (cA6, 8, .inl (fun _ => 0)))] t.heap ∧ va_K D mm_K [(cA2, .int), (cA4, .int), (cA6, .int)] t ∧ va_D (va_A [(h0, .inr (0, [.null, .null, .null, .int 0]))] sz) [(h0, .inr (0, [.ref q1, .ref q3, .ref q5, .int 0])), (q1, .inl (cA2, 8, .inl (fun _ => 0))), (q3, .inl (cA4, 8, .inl (fun _ => 0))), (q5, .inl (cA6, 8, .inl (fun _ => 0)))]) (va_A [(h0, .inr (0, [.null, .null, .null, .int 0]))] sz)) 3 24 (va_A [(h0, .inr (0, [.null, .null, .null, .int 0]))] sz) := by
  refine Met.ofW (cc := cX0_init) (maxL := 2) (ret := none) (by decide) rfl ?_
  intro p e s m args below meth c s₁ B hml hv
  obtain ⟨rfl, hsz, hP, hK, hD0⟩ := hv
  have hx := B.exec
  have hb := B.bytes
  have hr := B.returns
  have hts := atoms_spec (ws := Cond.code yX0_init cX0_init 2 none :: mm_TB) B.pre
  have htb : ∀ w ∈ mm_TB, w.before [.ref h0, .int (8 : Int32)].toArray s = true := fun w hw => hts w (List.mem_cons_of_mem _ hw)
  have hown : s.vm.findClass RX0 = some m.cls := findClass_of_methodNamed B.named
  have hlocks := B.notSynchronized
  have hin : meth.name = "<init>" := (name_of_methodNamed B.named B.method).1
  subst hsz
  have hD := hD0.self (sz := s.heap.size)
  generalize hAe : va_A [(h0, .inr (0, [.null, .null, .null, .int 0]))] s.heap.size = A at hD ⊢
  have hA : ∀ q : Nat, s.heap.size ≤ q → A q := fun q h => by rw [← hAe]; exact Or.inr h
  have hS : va_S A s.heap s.heap [] := va_S.rf
  have hl := lv_entry ([.ref h0, .int (8 : Int32)]) (n := 2) (Nat.le_of_ble_eq_true rfl)
  rw [lg_entry_eq]
  generalize (lg_sl ([.ref h0, .int (8 : Int32)]) ++ List.replicate (2 - (lg_sl ([.ref h0, .int (8 : Int32)])).length) Slot.unset).toArray = ls at hl ⊢
  have hl : lv_has ls 2 [(0, .ref h0), (1, .int (8 : Int32))] := hl
  refine lv_aload_n hx hb di_0_0 rfl (lv_at hl 0 rfl) ?_
  refine W.objInit hx hb hown (htb _ wo_0) (htb _ wo_inst) (htb _ wo_code) rfl (by rw [hml]; exact hl.1) rfl di_0_1 (Nat.le_of_ble_eq_true rfl) (Nat.le_of_ble_eq_true rfl) ?_
  refine W.eq (g2 := F0 m 4 ls []) rfl ?_
  refine lv_aload_n hx hb di_0_4 rfl (lv_at hl 0 rfl) ?_
  refine lv_iload_n hx hb di_0_5 rfl (lv_at hl 1 rfl) ?_
  refine va_newa (atype := .int) (ty := .int) (a0 := (8, .inl (fun _ => 0))) hx hb (htb _ wa_int) rfl hK hP hD hS hA (fun _ => rfl) (by decide) rfl (by decide) (Nat.le_of_ble_eq_true rfl) (Nat.le_of_ble_eq_true rfl) di_0_6 (fun q1 cA2 H hK hP hD hS => ?_)
  have hP : va_P D mm_K [(h0, .inr (0, [.null, .null, .null, .int 0])), (q1, .inl (cA2, 8, .inl (fun _ => 0)))] H := hP
  have hD : va_D A [(h0, .inr (0, [.null, .null, .null, .int 0])), (q1, .inl (cA2, 8, .inl (fun _ => 0)))] := hD
  have hK : va_K D mm_K [(cA2, .int)] s := hK
  refine va_putF (D := D) (ci := 0) (v := .ref q1) (ty := .array .int) (C := RX0) (T := TX0) (N := 4) hx hb htb mu_0 tyX0 tyX0_ok nmX0 hown hK hP hD hS 0 rfl rfl 0 (by decide) (htb _ wf_0_9) (fun _ h9 => h9) rfl hin rfl (by decide +kernel) rfl rfl (Nat.le_of_ble_eq_true rfl) di_0_8 (fun H locs hP hD hS => ?_)
  have hP : va_P D mm_K [(h0, .inr (0, [.ref q1, .null, .null, .int 0])), (q1, .inl (cA2, 8, .inl (fun _ => 0)))] H := hP
  have hD : va_D A [(h0, .inr (0, [.ref q1, .null, .null, .int 0])), (q1, .inl (cA2, 8, .inl (fun _ => 0)))] := hD
  refine lv_aload_n hx hb di_0_11 rfl (lv_at hl 0 rfl) ?_
  refine lv_iload_n hx hb di_0_12 rfl (lv_at hl 1 rfl) ?_
  refine va_newa (atype := .int) (ty := .int) (a0 := (8, .inl (fun _ => 0))) hx hb (htb _ wa_int) rfl hK hP hD hS hA (fun _ => rfl) (by decide) rfl (by decide) (Nat.le_of_ble_eq_true rfl) (Nat.le_of_ble_eq_true rfl) di_0_13 (fun q3 cA4 H hK hP hD hS => ?_)
  have hP : va_P D mm_K [(h0, .inr (0, [.ref q1, .null, .null, .int 0])), (q1, .inl (cA2, 8, .inl (fun _ => 0))), (q3, .inl (cA4, 8, .inl (fun _ => 0)))] H := hP
  have hD : va_D A [(h0, .inr (0, [.ref q1, .null, .null, .int 0])), (q1, .inl (cA2, 8, .inl (fun _ => 0))), (q3, .inl (cA4, 8, .inl (fun _ => 0)))] := hD
  have hK : va_K D mm_K [(cA2, .int), (cA4, .int)] s := hK
  refine va_putF (D := D) (ci := 0) (v := .ref q3) (ty := .array .int) (C := RX0) (T := TX0) (N := 4) hx hb htb mu_0 tyX0 tyX0_ok nmX0 hown hK hP hD hS 0 rfl rfl 1 (by decide) (htb _ wf_0_15) (fun _ h9 => h9) rfl hin rfl (by decide +kernel) rfl rfl (Nat.le_of_ble_eq_true rfl) di_0_15 (fun H locs hP hD hS => ?_)
  have hP : va_P D mm_K [(h0, .inr (0, [.ref q1, .ref q3, .null, .int 0])), (q1, .inl (cA2, 8, .inl (fun _ => 0))), (q3, .inl (cA4, 8, .inl (fun _ => 0)))] H := hP
  have hD : va_D A [(h0, .inr (0, [.ref q1, .ref q3, .null, .int 0])), (q1, .inl (cA2, 8, .inl (fun _ => 0))), (q3, .inl (cA4, 8, .inl (fun _ => 0)))] := hD
  refine lv_aload_n hx hb di_0_18 rfl (lv_at hl 0 rfl) ?_
  refine lv_iload_n hx hb di_0_19 rfl (lv_at hl 1 rfl) ?_
  refine va_newa (atype := .int) (ty := .int) (a0 := (8, .inl (fun _ => 0))) hx hb (htb _ wa_int) rfl hK hP hD hS hA (fun _ => rfl) (by decide) rfl (by decide) (Nat.le_of_ble_eq_true rfl) (Nat.le_of_ble_eq_true rfl) di_0_20 (fun q5 cA6 H hK hP hD hS => ?_)
  have hP : va_P D mm_K [(h0, .inr (0, [.ref q1, .ref q3, .null, .int 0])), (q1, .inl (cA2, 8, .inl (fun _ => 0))), (q3, .inl (cA4, 8, .inl (fun _ => 0))), (q5, .inl (cA6, 8, .inl (fun _ => 0)))] H := hP
  have hD : va_D A [(h0, .inr (0, [.ref q1, .ref q3, .null, .int 0])), (q1, .inl (cA2, 8, .inl (fun _ => 0))), (q3, .inl (cA4, 8, .inl (fun _ => 0))), (q5, .inl (cA6, 8, .inl (fun _ => 0)))] := hD
  have hK : va_K D mm_K [(cA2, .int), (cA4, .int), (cA6, .int)] s := hK
  refine va_putF (D := D) (ci := 0) (v := .ref q5) (ty := .array .int) (C := RX0) (T := TX0) (N := 4) hx hb htb mu_0 tyX0 tyX0_ok nmX0 hown hK hP hD hS 0 rfl rfl 2 (by decide) (htb _ wf_0_18) (fun _ h9 => h9) rfl hin rfl (by decide +kernel) rfl rfl (Nat.le_of_ble_eq_true rfl) di_0_22 (fun H locs hP hD hS => ?_)
  have hP : va_P D mm_K [(h0, .inr (0, [.ref q1, .ref q3, .ref q5, .int 0])), (q1, .inl (cA2, 8, .inl (fun _ => 0))), (q3, .inl (cA4, 8, .inl (fun _ => 0))), (q5, .inl (cA6, 8, .inl (fun _ => 0)))] H := hP
  have hD : va_D A [(h0, .inr (0, [.ref q1, .ref q3, .ref q5, .int 0])), (q1, .inl (cA2, 8, .inl (fun _ => 0))), (q3, .inl (cA4, 8, .inl (fun _ => 0))), (q5, .inl (cA6, 8, .inl (fun _ => 0)))] := hD
  refine W.widen (k := 3) (n := 24) (Nat.le_of_ble_eq_true rfl) (Nat.le_of_ble_eq_true rfl) ?_
  exact W.vret hx hb hr (fun t ht hW => ⟨⟨(), rfl, trivial, q1, q3, q5, cA2, cA4, cA6, by rw [ht]; exact hP, va_K.moved hW.alike hK, hD⟩, hS.F ht⟩) hS.2.2 di_0_25
set_option maxHeartbeats 4000000 in
set_option maxRecDepth 100000 in
theorem c_X0_6 (l : Launch) (D : va_G) (h0 sz : Nat) : Met l yX0_init (Cond.code yX0_init cX0_init 2 none :: mm_TB) ({ frames := 2, cells := 3, slots := 18, locals := 64 }) (va_Pc [.ref h0, .int (6 : Int32)] (fun U => U.heap.size = sz ∧ va_P D mm_K [(h0, .inr (0, [.null, .null, .null, .int 0]))] U.heap ∧ va_K D mm_K [] U ∧ va_D (fun _ => True) [(h0, .inr (0, [.null, .null, .null, .int 0]))])) (va_Qv (fun _ : Unit => True) (fun (_ : Unit) (t : State) => ∃ (q1 : Nat) (q3 : Nat) (q5 : Nat) (cA2 : ClassId) (cA4 : ClassId) (cA6 : ClassId), va_P D mm_K [(h0, .inr (0, [.ref q1, .ref q3, .ref q5, .int 0])), (q1, .inl (cA2, 6, .inl (fun _ => 0))), (q3, .inl (cA4, 6, .inl (fun _ => 0))), (q5, .inl (cA6, 6, .inl (fun _ => 0)))] t.heap ∧ va_K D mm_K [(cA2, .int), (cA4, .int), (cA6, .int)] t ∧ va_D (va_A [(h0, .inr (0, [.null, .null, .null, .int 0]))] sz) [(h0, .inr (0, [.ref q1, .ref q3, .ref q5, .int 0])), (q1, .inl (cA2, 6, .inl (fun _ => 0))), (q3, .inl (cA4, 6, .inl (fun _ => 0))), (q5, .inl (cA6, 6, .inl (fun _ => 0)))]) (va_A [(h0, .inr (0, [.null, .null, .null, .int 0]))] sz)) 3 18 (va_A [(h0, .inr (0, [.null, .null, .null, .int 0]))] sz) := by
  refine Met.ofW (cc := cX0_init) (maxL := 2) (ret := none) (by decide) rfl ?_
  intro p e s m args below meth c s₁ B hml hv
  obtain ⟨rfl, hsz, hP, hK, hD0⟩ := hv
  have hx := B.exec
  have hb := B.bytes
  have hr := B.returns
  have hts := atoms_spec (ws := Cond.code yX0_init cX0_init 2 none :: mm_TB) B.pre
  have htb : ∀ w ∈ mm_TB, w.before [.ref h0, .int (6 : Int32)].toArray s = true := fun w hw => hts w (List.mem_cons_of_mem _ hw)
  have hown : s.vm.findClass RX0 = some m.cls := findClass_of_methodNamed B.named
  have hlocks := B.notSynchronized
  have hin : meth.name = "<init>" := (name_of_methodNamed B.named B.method).1
  subst hsz
  have hD := hD0.self (sz := s.heap.size)
  generalize hAe : va_A [(h0, .inr (0, [.null, .null, .null, .int 0]))] s.heap.size = A at hD ⊢
  have hA : ∀ q : Nat, s.heap.size ≤ q → A q := fun q h => by rw [← hAe]; exact Or.inr h
  have hS : va_S A s.heap s.heap [] := va_S.rf
  have hl := lv_entry ([.ref h0, .int (6 : Int32)]) (n := 2) (Nat.le_of_ble_eq_true rfl)
  rw [lg_entry_eq]
  generalize (lg_sl ([.ref h0, .int (6 : Int32)]) ++ List.replicate (2 - (lg_sl ([.ref h0, .int (6 : Int32)])).length) Slot.unset).toArray = ls at hl ⊢
  have hl : lv_has ls 2 [(0, .ref h0), (1, .int (6 : Int32))] := hl
  refine lv_aload_n hx hb di_0_0 rfl (lv_at hl 0 rfl) ?_
  refine W.objInit hx hb hown (htb _ wo_0) (htb _ wo_inst) (htb _ wo_code) rfl (by rw [hml]; exact hl.1) rfl di_0_1 (Nat.le_of_ble_eq_true rfl) (Nat.le_of_ble_eq_true rfl) ?_
  refine W.eq (g2 := F0 m 4 ls []) rfl ?_
  refine lv_aload_n hx hb di_0_4 rfl (lv_at hl 0 rfl) ?_
  refine lv_iload_n hx hb di_0_5 rfl (lv_at hl 1 rfl) ?_
  refine va_newa (atype := .int) (ty := .int) (a0 := (6, .inl (fun _ => 0))) hx hb (htb _ wa_int) rfl hK hP hD hS hA (fun _ => rfl) (by decide) rfl (by decide) (Nat.le_of_ble_eq_true rfl) (Nat.le_of_ble_eq_true rfl) di_0_6 (fun q1 cA2 H hK hP hD hS => ?_)
  have hP : va_P D mm_K [(h0, .inr (0, [.null, .null, .null, .int 0])), (q1, .inl (cA2, 6, .inl (fun _ => 0)))] H := hP
  have hD : va_D A [(h0, .inr (0, [.null, .null, .null, .int 0])), (q1, .inl (cA2, 6, .inl (fun _ => 0)))] := hD
  have hK : va_K D mm_K [(cA2, .int)] s := hK
  refine va_putF (D := D) (ci := 0) (v := .ref q1) (ty := .array .int) (C := RX0) (T := TX0) (N := 4) hx hb htb mu_0 tyX0 tyX0_ok nmX0 hown hK hP hD hS 0 rfl rfl 0 (by decide) (htb _ wf_0_9) (fun _ h9 => h9) rfl hin rfl (by decide +kernel) rfl rfl (Nat.le_of_ble_eq_true rfl) di_0_8 (fun H locs hP hD hS => ?_)
  have hP : va_P D mm_K [(h0, .inr (0, [.ref q1, .null, .null, .int 0])), (q1, .inl (cA2, 6, .inl (fun _ => 0)))] H := hP
  have hD : va_D A [(h0, .inr (0, [.ref q1, .null, .null, .int 0])), (q1, .inl (cA2, 6, .inl (fun _ => 0)))] := hD
  refine lv_aload_n hx hb di_0_11 rfl (lv_at hl 0 rfl) ?_
  refine lv_iload_n hx hb di_0_12 rfl (lv_at hl 1 rfl) ?_
  refine va_newa (atype := .int) (ty := .int) (a0 := (6, .inl (fun _ => 0))) hx hb (htb _ wa_int) rfl hK hP hD hS hA (fun _ => rfl) (by decide) rfl (by decide) (Nat.le_of_ble_eq_true rfl) (Nat.le_of_ble_eq_true rfl) di_0_13 (fun q3 cA4 H hK hP hD hS => ?_)
  have hP : va_P D mm_K [(h0, .inr (0, [.ref q1, .null, .null, .int 0])), (q1, .inl (cA2, 6, .inl (fun _ => 0))), (q3, .inl (cA4, 6, .inl (fun _ => 0)))] H := hP
  have hD : va_D A [(h0, .inr (0, [.ref q1, .null, .null, .int 0])), (q1, .inl (cA2, 6, .inl (fun _ => 0))), (q3, .inl (cA4, 6, .inl (fun _ => 0)))] := hD
  have hK : va_K D mm_K [(cA2, .int), (cA4, .int)] s := hK
  refine va_putF (D := D) (ci := 0) (v := .ref q3) (ty := .array .int) (C := RX0) (T := TX0) (N := 4) hx hb htb mu_0 tyX0 tyX0_ok nmX0 hown hK hP hD hS 0 rfl rfl 1 (by decide) (htb _ wf_0_15) (fun _ h9 => h9) rfl hin rfl (by decide +kernel) rfl rfl (Nat.le_of_ble_eq_true rfl) di_0_15 (fun H locs hP hD hS => ?_)
  have hP : va_P D mm_K [(h0, .inr (0, [.ref q1, .ref q3, .null, .int 0])), (q1, .inl (cA2, 6, .inl (fun _ => 0))), (q3, .inl (cA4, 6, .inl (fun _ => 0)))] H := hP
  have hD : va_D A [(h0, .inr (0, [.ref q1, .ref q3, .null, .int 0])), (q1, .inl (cA2, 6, .inl (fun _ => 0))), (q3, .inl (cA4, 6, .inl (fun _ => 0)))] := hD
  refine lv_aload_n hx hb di_0_18 rfl (lv_at hl 0 rfl) ?_
  refine lv_iload_n hx hb di_0_19 rfl (lv_at hl 1 rfl) ?_
  refine va_newa (atype := .int) (ty := .int) (a0 := (6, .inl (fun _ => 0))) hx hb (htb _ wa_int) rfl hK hP hD hS hA (fun _ => rfl) (by decide) rfl (by decide) (Nat.le_of_ble_eq_true rfl) (Nat.le_of_ble_eq_true rfl) di_0_20 (fun q5 cA6 H hK hP hD hS => ?_)
  have hP : va_P D mm_K [(h0, .inr (0, [.ref q1, .ref q3, .null, .int 0])), (q1, .inl (cA2, 6, .inl (fun _ => 0))), (q3, .inl (cA4, 6, .inl (fun _ => 0))), (q5, .inl (cA6, 6, .inl (fun _ => 0)))] H := hP
  have hD : va_D A [(h0, .inr (0, [.ref q1, .ref q3, .null, .int 0])), (q1, .inl (cA2, 6, .inl (fun _ => 0))), (q3, .inl (cA4, 6, .inl (fun _ => 0))), (q5, .inl (cA6, 6, .inl (fun _ => 0)))] := hD
  have hK : va_K D mm_K [(cA2, .int), (cA4, .int), (cA6, .int)] s := hK
  refine va_putF (D := D) (ci := 0) (v := .ref q5) (ty := .array .int) (C := RX0) (T := TX0) (N := 4) hx hb htb mu_0 tyX0 tyX0_ok nmX0 hown hK hP hD hS 0 rfl rfl 2 (by decide) (htb _ wf_0_18) (fun _ h9 => h9) rfl hin rfl (by decide +kernel) rfl rfl (Nat.le_of_ble_eq_true rfl) di_0_22 (fun H locs hP hD hS => ?_)
  have hP : va_P D mm_K [(h0, .inr (0, [.ref q1, .ref q3, .ref q5, .int 0])), (q1, .inl (cA2, 6, .inl (fun _ => 0))), (q3, .inl (cA4, 6, .inl (fun _ => 0))), (q5, .inl (cA6, 6, .inl (fun _ => 0)))] H := hP
  have hD : va_D A [(h0, .inr (0, [.ref q1, .ref q3, .ref q5, .int 0])), (q1, .inl (cA2, 6, .inl (fun _ => 0))), (q3, .inl (cA4, 6, .inl (fun _ => 0))), (q5, .inl (cA6, 6, .inl (fun _ => 0)))] := hD
  refine W.widen (k := 3) (n := 18) (Nat.le_of_ble_eq_true rfl) (Nat.le_of_ble_eq_true rfl) ?_
  exact W.vret hx hb hr (fun t ht hW => ⟨⟨(), rfl, trivial, q1, q3, q5, cA2, cA4, cA6, by rw [ht]; exact hP, va_K.moved hW.alike hK, hD⟩, hS.F ht⟩) hS.2.2 di_0_25
def mc_N (U : State) : Prop := va_Nw (.methodLinkNest RX6 17 yX4_init "PondRings") U ∧ va_Nw (.methodLinkNest RX6 20 yX3_init "PondRings") U ∧ va_Nw (.methodLinkNest RX6 27 yX2_init "PondRings") U ∧ va_Nw (.methodLinkNest RX6 49 yX1_init "PondRings") U ∧ va_Nw (.methodLinkNest RX6 56 yX5_init "PondRings") U ∧ va_AO "PondRings$Sheet" U
theorem wo_7 : Cond.methodLink RX7 1 objectInit ∈ mm_TB := (mm_t3 (w := .methodLink RX7 1 objectInit) 137 (by decide +kernel) (by decide +kernel))
theorem wf_7_9 : Cond.fieldLink RX7 9 "PondRingsModel" "sorts" "[I" ∈ mm_TB := (mm_t3 (w := .fieldLink RX7 9 "PondRingsModel" "sorts" "[I") 140 (by decide +kernel) (by decide +kernel))
theorem wf_7_13 : Cond.fieldLink RX7 13 "PondRingsModel" "sheetLong" "[I" ∈ mm_TB := (mm_t3 (w := .fieldLink RX7 13 "PondRingsModel" "sheetLong" "[I") 141 (by decide +kernel) (by decide +kernel))
theorem wf_7_16 : Cond.fieldLink RX7 16 "PondRingsModel" "cells" "[I" ∈ mm_TB := (mm_t3 (w := .fieldLink RX7 16 "PondRingsModel" "cells" "[I") 142 (by decide +kernel) (by decide +kernel))
theorem wf_7_19 : Cond.fieldLink RX7 19 "PondRingsModel" "isWater" "[Z" ∈ mm_TB := (mm_t3 (w := .fieldLink RX7 19 "PondRingsModel" "isWater" "[Z") 145 (by decide +kernel) (by decide +kernel))
theorem wf_7_23 : Cond.fieldLink RX7 23 "PondRingsModel" "ways" "[I" ∈ mm_TB := (mm_t3 (w := .fieldLink RX7 23 "PondRingsModel" "ways" "[I") 146 (by decide +kernel) (by decide +kernel))
theorem wf_7_26 : Cond.fieldLink RX7 26 "PondRingsModel" "readWater" "[Z" ∈ mm_TB := (mm_t3 (w := .fieldLink RX7 26 "PondRingsModel" "readWater" "[Z") 150 (by decide +kernel) (by decide +kernel))
theorem wf_7_29 : Cond.fieldLink RX7 29 "PondRingsModel" "stoneKind" "[I" ∈ mm_TB := (mm_t3 (w := .fieldLink RX7 29 "PondRingsModel" "stoneKind" "[I") 152 (by decide +kernel) (by decide +kernel))
theorem wf_7_32 : Cond.fieldLink RX7 32 "PondRingsModel" "stoneCell" "[I" ∈ mm_TB := (mm_t3 (w := .fieldLink RX7 32 "PondRingsModel" "stoneCell" "[I") 153 (by decide +kernel) (by decide +kernel))
theorem wf_7_35 : Cond.fieldLink RX7 35 "PondRingsModel" "stoneMinute" "[I" ∈ mm_TB := (mm_t3 (w := .fieldLink RX7 35 "PondRingsModel" "stoneMinute" "[I") 154 (by decide +kernel) (by decide +kernel))
theorem wf_7_38 : Cond.fieldLink RX7 38 "PondRingsModel" "wishKind" "[I" ∈ mm_TB := (mm_t3 (w := .fieldLink RX7 38 "PondRingsModel" "wishKind" "[I") 159 (by decide +kernel) (by decide +kernel))
theorem wf_7_41 : Cond.fieldLink RX7 41 "PondRingsModel" "wishCell" "[I" ∈ mm_TB := (mm_t3 (w := .fieldLink RX7 41 "PondRingsModel" "wishCell" "[I") 160 (by decide +kernel) (by decide +kernel))
theorem wf_7_44 : Cond.fieldLink RX7 44 "PondRingsModel" "doMeet" "[Z" ∈ mm_TB := (mm_t3 (w := .fieldLink RX7 44 "PondRingsModel" "doMeet" "[Z") 161 (by decide +kernel) (by decide +kernel))
theorem wf_7_47 : Cond.fieldLink RX7 47 "PondRingsModel" "minutes" "[I" ∈ mm_TB := (mm_t3 (w := .fieldLink RX7 47 "PondRingsModel" "minutes" "[I") 162 (by decide +kernel) (by decide +kernel))
theorem wf_7_50 : Cond.fieldLink RX7 50 "PondRingsModel" "reedCell" "[I" ∈ mm_TB := (mm_t3 (w := .fieldLink RX7 50 "PondRingsModel" "reedCell" "[I") 164 (by decide +kernel) (by decide +kernel))
theorem wf_7_53 : Cond.fieldLink RX7 53 "PondRingsModel" "reedMinute" "[I" ∈ mm_TB := (mm_t3 (w := .fieldLink RX7 53 "PondRingsModel" "reedMinute" "[I") 165 (by decide +kernel) (by decide +kernel))
set_option maxHeartbeats 4000000 in
set_option maxRecDepth 100000 in
theorem c_X7 (l : Launch) (D : va_G) (h0 sz : Nat) : Met l yX7_init (Cond.code yX7_init cX7_init 1 none :: mm_TB) ({ frames := 2, cells := 15, slots := 5786, locals := 64 }) (va_Pc [.ref h0] (fun U => U.heap.size = sz ∧ va_P D mm_K [(h0, .inr (7, [.int 0, .int 0, .null, .null, .null, .int 0, .int 0, .null, .null, .int 0, .int 0, .int 0, .null, .int 0, .null, .null, .null, .int 0, .int 0, .int 0, .int 0, .null, .null, .null, .null, .int 0, .null, .null]))] U.heap ∧ va_K D mm_K [] U ∧ va_D (fun _ => True) [(h0, .inr (7, [.int 0, .int 0, .null, .null, .null, .int 0, .int 0, .null, .null, .int 0, .int 0, .int 0, .null, .int 0, .null, .null, .null, .int 0, .int 0, .int 0, .int 0, .null, .null, .null, .null, .int 0, .null, .null]))])) (va_Qv (fun _ : Unit => True) (fun (_ : Unit) (t : State) => ∃ (q1 : Nat) (q3 : Nat) (q5 : Nat) (q7 : Nat) (q9 : Nat) (q11 : Nat) (q13 : Nat) (q15 : Nat) (q17 : Nat) (q19 : Nat) (q21 : Nat) (q23 : Nat) (q25 : Nat) (q27 : Nat) (q29 : Nat) (cA2 : ClassId) (cA4 : ClassId) (cA6 : ClassId) (cA8 : ClassId) (cA10 : ClassId) (cA12 : ClassId) (cA14 : ClassId) (cA16 : ClassId) (cA18 : ClassId) (cA20 : ClassId) (cA22 : ClassId) (cA24 : ClassId) (cA26 : ClassId) (cA28 : ClassId) (cA30 : ClassId), va_P D mm_K [(h0, .inr (7, [.int 0, .int 0, .ref q1, .ref q3, .ref q5, .int 0, .int 0, .ref q7, .ref q9, .int 0, .int 0, .int 0, .ref q11, .int 0, .ref q13, .ref q15, .ref q17, .int 0, .int 0, .int 0, .int 0, .ref q19, .ref q21, .ref q23, .ref q25, .int 0, .ref q27, .ref q29])), (q1, .inl (cA2, 4, .inl (upd (upd (upd (upd (fun _ => 0) 0 (-9 : Int32)) 1 (-9 : Int32)) 2 (-9 : Int32)) 3 (-9 : Int32)))), (q3, .inl (cA4, 4, .inl (fun _ => 0))), (q5, .inl (cA6, 240, .inl (fun _ => 0))), (q7, .inl (cA8, 42, .inl (fun _ => 0))), (q9, .inl (cA10, 1764, .inl (fun _ => 0))), (q11, .inl (cA12, 42, .inl (fun _ => 0))), (q13, .inl (cA14, 8, .inl (fun _ => 0))), (q15, .inl (cA16, 8, .inl (fun _ => 0))), (q17, .inl (cA18, 8, .inl (fun _ => 0))), (q19, .inl (cA20, 6, .inl (fun _ => 0))), (q21, .inl (cA22, 6, .inl (fun _ => 0))), (q23, .inl (cA24, 3636, .inl (fun _ => 0))), (q25, .inl (cA26, 6, .inl (fun _ => 0))), (q27, .inl (cA28, 6, .inl (fun _ => 0))), (q29, .inl (cA30, 6, .inl (fun _ => 0)))] t.heap ∧ va_K D mm_K [(cA2, .int), (cA4, .int), (cA6, .int), (cA8, .boolean), (cA10, .int), (cA12, .boolean), (cA14, .int), (cA16, .int), (cA18, .int), (cA20, .int), (cA22, .int), (cA24, .boolean), (cA26, .int), (cA28, .int), (cA30, .int)] t ∧ va_D (va_A [(h0, .inr (7, [.int 0, .int 0, .null, .null, .null, .int 0, .int 0, .null, .null, .int 0, .int 0, .int 0, .null, .int 0, .null, .null, .null, .int 0, .int 0, .int 0, .int 0, .null, .null, .null, .null, .int 0, .null, .null]))] sz) [(h0, .inr (7, [.int 0, .int 0, .ref q1, .ref q3, .ref q5, .int 0, .int 0, .ref q7, .ref q9, .int 0, .int 0, .int 0, .ref q11, .int 0, .ref q13, .ref q15, .ref q17, .int 0, .int 0, .int 0, .int 0, .ref q19, .ref q21, .ref q23, .ref q25, .int 0, .ref q27, .ref q29])), (q1, .inl (cA2, 4, .inl (upd (upd (upd (upd (fun _ => 0) 0 (-9 : Int32)) 1 (-9 : Int32)) 2 (-9 : Int32)) 3 (-9 : Int32)))), (q3, .inl (cA4, 4, .inl (fun _ => 0))), (q5, .inl (cA6, 240, .inl (fun _ => 0))), (q7, .inl (cA8, 42, .inl (fun _ => 0))), (q9, .inl (cA10, 1764, .inl (fun _ => 0))), (q11, .inl (cA12, 42, .inl (fun _ => 0))), (q13, .inl (cA14, 8, .inl (fun _ => 0))), (q15, .inl (cA16, 8, .inl (fun _ => 0))), (q17, .inl (cA18, 8, .inl (fun _ => 0))), (q19, .inl (cA20, 6, .inl (fun _ => 0))), (q21, .inl (cA22, 6, .inl (fun _ => 0))), (q23, .inl (cA24, 3636, .inl (fun _ => 0))), (q25, .inl (cA26, 6, .inl (fun _ => 0))), (q27, .inl (cA28, 6, .inl (fun _ => 0))), (q29, .inl (cA30, 6, .inl (fun _ => 0)))]) (va_A [(h0, .inr (7, [.int 0, .int 0, .null, .null, .null, .int 0, .int 0, .null, .null, .int 0, .int 0, .int 0, .null, .int 0, .null, .null, .null, .int 0, .int 0, .int 0, .int 0, .null, .null, .null, .null, .int 0, .null, .null]))] sz)) 15 5786 (va_A [(h0, .inr (7, [.int 0, .int 0, .null, .null, .null, .int 0, .int 0, .null, .null, .int 0, .int 0, .int 0, .null, .int 0, .null, .null, .null, .int 0, .int 0, .int 0, .int 0, .null, .null, .null, .null, .int 0, .null, .null]))] sz) := by
  refine Met.ofW (cc := cX7_init) (maxL := 1) (ret := none) (by decide) rfl ?_
  intro p e s m args below meth c s₁ B hml hv
  obtain ⟨rfl, hsz, hP, hK, hD0⟩ := hv
  have hx := B.exec
  have hb := B.bytes
  have hr := B.returns
  have hts := atoms_spec (ws := Cond.code yX7_init cX7_init 1 none :: mm_TB) B.pre
  have htb : ∀ w ∈ mm_TB, w.before [.ref h0].toArray s = true := fun w hw => hts w (List.mem_cons_of_mem _ hw)
  have hown : s.vm.findClass RX7 = some m.cls := findClass_of_methodNamed B.named
  have hlocks := B.notSynchronized
  have hin : meth.name = "<init>" := (name_of_methodNamed B.named B.method).1
  subst hsz
  have hD := hD0.self (sz := s.heap.size)
  generalize hAe : va_A [(h0, .inr (7, [.int 0, .int 0, .null, .null, .null, .int 0, .int 0, .null, .null, .int 0, .int 0, .int 0, .null, .int 0, .null, .null, .null, .int 0, .int 0, .int 0, .int 0, .null, .null, .null, .null, .int 0, .null, .null]))] s.heap.size = A at hD ⊢
  have hA : ∀ q : Nat, s.heap.size ≤ q → A q := fun q h => by rw [← hAe]; exact Or.inr h
  have hS : va_S A s.heap s.heap [] := va_S.rf
  have hl := lv_entry ([.ref h0]) (n := 1) (Nat.le_of_ble_eq_true rfl)
  rw [lg_entry_eq]
  generalize (lg_sl ([.ref h0]) ++ List.replicate (1 - (lg_sl ([.ref h0])).length) Slot.unset).toArray = ls at hl ⊢
  have hl : lv_has ls 1 [(0, .ref h0)] := hl
  refine lv_aload_n hx hb di_7_0 rfl (lv_at hl 0 rfl) ?_
  refine W.objInit hx hb hown (htb _ wo_7) (htb _ wo_inst) (htb _ wo_code) rfl (by rw [hml]; exact hl.1) rfl di_7_1 (Nat.le_of_ble_eq_true rfl) (Nat.le_of_ble_eq_true rfl) ?_
  refine W.eq (g2 := F0 m 4 ls []) rfl ?_
  refine lv_aload_n hx hb di_7_4 rfl (lv_at hl 0 rfl) ?_
  refine lv_iconst (v := 4) hx hb di_7_5 (by decide) ?_
  refine va_newa (atype := .int) (ty := .int) (a0 := (4, .inl (fun _ => 0))) hx hb (htb _ wa_int) rfl hK hP hD hS hA (fun _ => rfl) (by decide) rfl (by decide) (Nat.le_of_ble_eq_true rfl) (Nat.le_of_ble_eq_true rfl) di_7_6 (fun q1 cA2 H hK hP hD hS => ?_)
  have hP : va_P D mm_K [(h0, .inr (7, [.int 0, .int 0, .null, .null, .null, .int 0, .int 0, .null, .null, .int 0, .int 0, .int 0, .null, .int 0, .null, .null, .null, .int 0, .int 0, .int 0, .int 0, .null, .null, .null, .null, .int 0, .null, .null])), (q1, .inl (cA2, 4, .inl (fun _ => 0)))] H := hP
  have hD : va_D A [(h0, .inr (7, [.int 0, .int 0, .null, .null, .null, .int 0, .int 0, .null, .null, .int 0, .int 0, .int 0, .null, .int 0, .null, .null, .null, .int 0, .int 0, .int 0, .int 0, .null, .null, .null, .null, .int 0, .null, .null])), (q1, .inl (cA2, 4, .inl (fun _ => 0)))] := hD
  have hK : va_K D mm_K [(cA2, .int)] s := hK
  refine lv_dup hx hb di_7_8 rfl ?_
  refine lv_iconst (v := 0) hx hb di_7_9 (by decide) ?_
  refine lv_bipush (v := (-9)) hx hb di_7_10 (by decide) ?_
  refine va_iast (D := D) (x := (-9 : Int32)) hx hb hK hP hD hS 1 0 rfl rfl (i := (0 : Int32)) (by unfold vp_in; decide) di_7_12 (fun H locs hP hD hS => ?_)
  have hP : va_P D mm_K [(h0, .inr (7, [.int 0, .int 0, .null, .null, .null, .int 0, .int 0, .null, .null, .int 0, .int 0, .int 0, .null, .int 0, .null, .null, .null, .int 0, .int 0, .int 0, .int 0, .null, .null, .null, .null, .int 0, .null, .null])), (q1, .inl (cA2, 4, .inl (upd (fun _ => 0) 0 (-9 : Int32))))] H := hP
  have hD : va_D A [(h0, .inr (7, [.int 0, .int 0, .null, .null, .null, .int 0, .int 0, .null, .null, .int 0, .int 0, .int 0, .null, .int 0, .null, .null, .null, .int 0, .int 0, .int 0, .int 0, .null, .null, .null, .null, .int 0, .null, .null])), (q1, .inl (cA2, 4, .inl (upd (fun _ => 0) 0 (-9 : Int32))))] := hD
  refine lv_dup hx hb di_7_13 rfl ?_
  refine lv_iconst (v := 1) hx hb di_7_14 (by decide) ?_
  refine lv_bipush (v := (-9)) hx hb di_7_15 (by decide) ?_
  refine va_iast (D := D) (x := (-9 : Int32)) hx hb hK hP hD hS 1 0 rfl rfl (i := (1 : Int32)) (by unfold vp_in; decide) di_7_17 (fun H locs hP hD hS => ?_)
  have hP : va_P D mm_K [(h0, .inr (7, [.int 0, .int 0, .null, .null, .null, .int 0, .int 0, .null, .null, .int 0, .int 0, .int 0, .null, .int 0, .null, .null, .null, .int 0, .int 0, .int 0, .int 0, .null, .null, .null, .null, .int 0, .null, .null])), (q1, .inl (cA2, 4, .inl (upd (upd (fun _ => 0) 0 (-9 : Int32)) 1 (-9 : Int32))))] H := hP
  have hD : va_D A [(h0, .inr (7, [.int 0, .int 0, .null, .null, .null, .int 0, .int 0, .null, .null, .int 0, .int 0, .int 0, .null, .int 0, .null, .null, .null, .int 0, .int 0, .int 0, .int 0, .null, .null, .null, .null, .int 0, .null, .null])), (q1, .inl (cA2, 4, .inl (upd (upd (fun _ => 0) 0 (-9 : Int32)) 1 (-9 : Int32))))] := hD
  refine lv_dup hx hb di_7_18 rfl ?_
  refine lv_iconst (v := 2) hx hb di_7_19 (by decide) ?_
  refine lv_bipush (v := (-9)) hx hb di_7_20 (by decide) ?_
  refine va_iast (D := D) (x := (-9 : Int32)) hx hb hK hP hD hS 1 0 rfl rfl (i := (2 : Int32)) (by unfold vp_in; decide) di_7_22 (fun H locs hP hD hS => ?_)
  have hP : va_P D mm_K [(h0, .inr (7, [.int 0, .int 0, .null, .null, .null, .int 0, .int 0, .null, .null, .int 0, .int 0, .int 0, .null, .int 0, .null, .null, .null, .int 0, .int 0, .int 0, .int 0, .null, .null, .null, .null, .int 0, .null, .null])), (q1, .inl (cA2, 4, .inl (upd (upd (upd (fun _ => 0) 0 (-9 : Int32)) 1 (-9 : Int32)) 2 (-9 : Int32))))] H := hP
  have hD : va_D A [(h0, .inr (7, [.int 0, .int 0, .null, .null, .null, .int 0, .int 0, .null, .null, .int 0, .int 0, .int 0, .null, .int 0, .null, .null, .null, .int 0, .int 0, .int 0, .int 0, .null, .null, .null, .null, .int 0, .null, .null])), (q1, .inl (cA2, 4, .inl (upd (upd (upd (fun _ => 0) 0 (-9 : Int32)) 1 (-9 : Int32)) 2 (-9 : Int32))))] := hD
  refine lv_dup hx hb di_7_23 rfl ?_
  refine lv_iconst (v := 3) hx hb di_7_24 (by decide) ?_
  refine lv_bipush (v := (-9)) hx hb di_7_25 (by decide) ?_
  refine va_iast (D := D) (x := (-9 : Int32)) hx hb hK hP hD hS 1 0 rfl rfl (i := (3 : Int32)) (by unfold vp_in; decide) di_7_27 (fun H locs hP hD hS => ?_)
  have hP : va_P D mm_K [(h0, .inr (7, [.int 0, .int 0, .null, .null, .null, .int 0, .int 0, .null, .null, .int 0, .int 0, .int 0, .null, .int 0, .null, .null, .null, .int 0, .int 0, .int 0, .int 0, .null, .null, .null, .null, .int 0, .null, .null])), (q1, .inl (cA2, 4, .inl (upd (upd (upd (upd (fun _ => 0) 0 (-9 : Int32)) 1 (-9 : Int32)) 2 (-9 : Int32)) 3 (-9 : Int32))))] H := hP
  have hD : va_D A [(h0, .inr (7, [.int 0, .int 0, .null, .null, .null, .int 0, .int 0, .null, .null, .int 0, .int 0, .int 0, .null, .int 0, .null, .null, .null, .int 0, .int 0, .int 0, .int 0, .null, .null, .null, .null, .int 0, .null, .null])), (q1, .inl (cA2, 4, .inl (upd (upd (upd (upd (fun _ => 0) 0 (-9 : Int32)) 1 (-9 : Int32)) 2 (-9 : Int32)) 3 (-9 : Int32))))] := hD
  refine va_putF (D := D) (ci := 7) (v := .ref q1) (ty := .array .int) (C := RX7) (T := TX7) (N := 28) hx hb htb mu_7 tyX7 tyX7_ok nmX7 hown hK hP hD hS 0 rfl rfl 2 (by decide) (htb _ wf_7_9) (fun _ h9 => h9) rfl hin rfl (by decide +kernel) rfl rfl (Nat.le_of_ble_eq_true rfl) di_7_28 (fun H locs hP hD hS => ?_)
  have hP : va_P D mm_K [(h0, .inr (7, [.int 0, .int 0, .ref q1, .null, .null, .int 0, .int 0, .null, .null, .int 0, .int 0, .int 0, .null, .int 0, .null, .null, .null, .int 0, .int 0, .int 0, .int 0, .null, .null, .null, .null, .int 0, .null, .null])), (q1, .inl (cA2, 4, .inl (upd (upd (upd (upd (fun _ => 0) 0 (-9 : Int32)) 1 (-9 : Int32)) 2 (-9 : Int32)) 3 (-9 : Int32))))] H := hP
  have hD : va_D A [(h0, .inr (7, [.int 0, .int 0, .ref q1, .null, .null, .int 0, .int 0, .null, .null, .int 0, .int 0, .int 0, .null, .int 0, .null, .null, .null, .int 0, .int 0, .int 0, .int 0, .null, .null, .null, .null, .int 0, .null, .null])), (q1, .inl (cA2, 4, .inl (upd (upd (upd (upd (fun _ => 0) 0 (-9 : Int32)) 1 (-9 : Int32)) 2 (-9 : Int32)) 3 (-9 : Int32))))] := hD
  refine lv_aload_n hx hb di_7_31 rfl (lv_at hl 0 rfl) ?_
  refine lv_iconst (v := 4) hx hb di_7_32 (by decide) ?_
  refine va_newa (atype := .int) (ty := .int) (a0 := (4, .inl (fun _ => 0))) hx hb (htb _ wa_int) rfl hK hP hD hS hA (fun _ => rfl) (by decide) rfl (by decide) (Nat.le_of_ble_eq_true rfl) (Nat.le_of_ble_eq_true rfl) di_7_33 (fun q3 cA4 H hK hP hD hS => ?_)
  have hP : va_P D mm_K [(h0, .inr (7, [.int 0, .int 0, .ref q1, .null, .null, .int 0, .int 0, .null, .null, .int 0, .int 0, .int 0, .null, .int 0, .null, .null, .null, .int 0, .int 0, .int 0, .int 0, .null, .null, .null, .null, .int 0, .null, .null])), (q1, .inl (cA2, 4, .inl (upd (upd (upd (upd (fun _ => 0) 0 (-9 : Int32)) 1 (-9 : Int32)) 2 (-9 : Int32)) 3 (-9 : Int32)))), (q3, .inl (cA4, 4, .inl (fun _ => 0)))] H := hP
  have hD : va_D A [(h0, .inr (7, [.int 0, .int 0, .ref q1, .null, .null, .int 0, .int 0, .null, .null, .int 0, .int 0, .int 0, .null, .int 0, .null, .null, .null, .int 0, .int 0, .int 0, .int 0, .null, .null, .null, .null, .int 0, .null, .null])), (q1, .inl (cA2, 4, .inl (upd (upd (upd (upd (fun _ => 0) 0 (-9 : Int32)) 1 (-9 : Int32)) 2 (-9 : Int32)) 3 (-9 : Int32)))), (q3, .inl (cA4, 4, .inl (fun _ => 0)))] := hD
  have hK : va_K D mm_K [(cA2, .int), (cA4, .int)] s := hK
  refine va_putF (D := D) (ci := 7) (v := .ref q3) (ty := .array .int) (C := RX7) (T := TX7) (N := 28) hx hb htb mu_7 tyX7 tyX7_ok nmX7 hown hK hP hD hS 0 rfl rfl 3 (by decide) (htb _ wf_7_13) (fun _ h9 => h9) rfl hin rfl (by decide +kernel) rfl rfl (Nat.le_of_ble_eq_true rfl) di_7_35 (fun H locs hP hD hS => ?_)
  have hP : va_P D mm_K [(h0, .inr (7, [.int 0, .int 0, .ref q1, .ref q3, .null, .int 0, .int 0, .null, .null, .int 0, .int 0, .int 0, .null, .int 0, .null, .null, .null, .int 0, .int 0, .int 0, .int 0, .null, .null, .null, .null, .int 0, .null, .null])), (q1, .inl (cA2, 4, .inl (upd (upd (upd (upd (fun _ => 0) 0 (-9 : Int32)) 1 (-9 : Int32)) 2 (-9 : Int32)) 3 (-9 : Int32)))), (q3, .inl (cA4, 4, .inl (fun _ => 0)))] H := hP
  have hD : va_D A [(h0, .inr (7, [.int 0, .int 0, .ref q1, .ref q3, .null, .int 0, .int 0, .null, .null, .int 0, .int 0, .int 0, .null, .int 0, .null, .null, .null, .int 0, .int 0, .int 0, .int 0, .null, .null, .null, .null, .int 0, .null, .null])), (q1, .inl (cA2, 4, .inl (upd (upd (upd (upd (fun _ => 0) 0 (-9 : Int32)) 1 (-9 : Int32)) 2 (-9 : Int32)) 3 (-9 : Int32)))), (q3, .inl (cA4, 4, .inl (fun _ => 0)))] := hD
  refine lv_aload_n hx hb di_7_38 rfl (lv_at hl 0 rfl) ?_
  refine lv_sipush (v := 240) hx hb di_7_39 (by decide) ?_
  refine va_newa (atype := .int) (ty := .int) (a0 := (240, .inl (fun _ => 0))) hx hb (htb _ wa_int) rfl hK hP hD hS hA (fun _ => rfl) (by decide) rfl (by decide) (Nat.le_of_ble_eq_true rfl) (Nat.le_of_ble_eq_true rfl) di_7_42 (fun q5 cA6 H hK hP hD hS => ?_)
  have hP : va_P D mm_K [(h0, .inr (7, [.int 0, .int 0, .ref q1, .ref q3, .null, .int 0, .int 0, .null, .null, .int 0, .int 0, .int 0, .null, .int 0, .null, .null, .null, .int 0, .int 0, .int 0, .int 0, .null, .null, .null, .null, .int 0, .null, .null])), (q1, .inl (cA2, 4, .inl (upd (upd (upd (upd (fun _ => 0) 0 (-9 : Int32)) 1 (-9 : Int32)) 2 (-9 : Int32)) 3 (-9 : Int32)))), (q3, .inl (cA4, 4, .inl (fun _ => 0))), (q5, .inl (cA6, 240, .inl (fun _ => 0)))] H := hP
  have hD : va_D A [(h0, .inr (7, [.int 0, .int 0, .ref q1, .ref q3, .null, .int 0, .int 0, .null, .null, .int 0, .int 0, .int 0, .null, .int 0, .null, .null, .null, .int 0, .int 0, .int 0, .int 0, .null, .null, .null, .null, .int 0, .null, .null])), (q1, .inl (cA2, 4, .inl (upd (upd (upd (upd (fun _ => 0) 0 (-9 : Int32)) 1 (-9 : Int32)) 2 (-9 : Int32)) 3 (-9 : Int32)))), (q3, .inl (cA4, 4, .inl (fun _ => 0))), (q5, .inl (cA6, 240, .inl (fun _ => 0)))] := hD
  have hK : va_K D mm_K [(cA2, .int), (cA4, .int), (cA6, .int)] s := hK
  refine va_putF (D := D) (ci := 7) (v := .ref q5) (ty := .array .int) (C := RX7) (T := TX7) (N := 28) hx hb htb mu_7 tyX7 tyX7_ok nmX7 hown hK hP hD hS 0 rfl rfl 4 (by decide) (htb _ wf_7_16) (fun _ h9 => h9) rfl hin rfl (by decide +kernel) rfl rfl (Nat.le_of_ble_eq_true rfl) di_7_44 (fun H locs hP hD hS => ?_)
  have hP : va_P D mm_K [(h0, .inr (7, [.int 0, .int 0, .ref q1, .ref q3, .ref q5, .int 0, .int 0, .null, .null, .int 0, .int 0, .int 0, .null, .int 0, .null, .null, .null, .int 0, .int 0, .int 0, .int 0, .null, .null, .null, .null, .int 0, .null, .null])), (q1, .inl (cA2, 4, .inl (upd (upd (upd (upd (fun _ => 0) 0 (-9 : Int32)) 1 (-9 : Int32)) 2 (-9 : Int32)) 3 (-9 : Int32)))), (q3, .inl (cA4, 4, .inl (fun _ => 0))), (q5, .inl (cA6, 240, .inl (fun _ => 0)))] H := hP
  have hD : va_D A [(h0, .inr (7, [.int 0, .int 0, .ref q1, .ref q3, .ref q5, .int 0, .int 0, .null, .null, .int 0, .int 0, .int 0, .null, .int 0, .null, .null, .null, .int 0, .int 0, .int 0, .int 0, .null, .null, .null, .null, .int 0, .null, .null])), (q1, .inl (cA2, 4, .inl (upd (upd (upd (upd (fun _ => 0) 0 (-9 : Int32)) 1 (-9 : Int32)) 2 (-9 : Int32)) 3 (-9 : Int32)))), (q3, .inl (cA4, 4, .inl (fun _ => 0))), (q5, .inl (cA6, 240, .inl (fun _ => 0)))] := hD
  refine lv_aload_n hx hb di_7_47 rfl (lv_at hl 0 rfl) ?_
  refine lv_bipush (v := 42) hx hb di_7_48 (by decide) ?_
  refine va_newa (atype := .boolean) (ty := .boolean) (a0 := (42, .inl (fun _ => 0))) hx hb (htb _ wa_boolean) rfl hK hP hD hS hA (fun _ => rfl) (by decide) rfl (by decide) (Nat.le_of_ble_eq_true rfl) (Nat.le_of_ble_eq_true rfl) di_7_50 (fun q7 cA8 H hK hP hD hS => ?_)
  have hP : va_P D mm_K [(h0, .inr (7, [.int 0, .int 0, .ref q1, .ref q3, .ref q5, .int 0, .int 0, .null, .null, .int 0, .int 0, .int 0, .null, .int 0, .null, .null, .null, .int 0, .int 0, .int 0, .int 0, .null, .null, .null, .null, .int 0, .null, .null])), (q1, .inl (cA2, 4, .inl (upd (upd (upd (upd (fun _ => 0) 0 (-9 : Int32)) 1 (-9 : Int32)) 2 (-9 : Int32)) 3 (-9 : Int32)))), (q3, .inl (cA4, 4, .inl (fun _ => 0))), (q5, .inl (cA6, 240, .inl (fun _ => 0))), (q7, .inl (cA8, 42, .inl (fun _ => 0)))] H := hP
  have hD : va_D A [(h0, .inr (7, [.int 0, .int 0, .ref q1, .ref q3, .ref q5, .int 0, .int 0, .null, .null, .int 0, .int 0, .int 0, .null, .int 0, .null, .null, .null, .int 0, .int 0, .int 0, .int 0, .null, .null, .null, .null, .int 0, .null, .null])), (q1, .inl (cA2, 4, .inl (upd (upd (upd (upd (fun _ => 0) 0 (-9 : Int32)) 1 (-9 : Int32)) 2 (-9 : Int32)) 3 (-9 : Int32)))), (q3, .inl (cA4, 4, .inl (fun _ => 0))), (q5, .inl (cA6, 240, .inl (fun _ => 0))), (q7, .inl (cA8, 42, .inl (fun _ => 0)))] := hD
  have hK : va_K D mm_K [(cA2, .int), (cA4, .int), (cA6, .int), (cA8, .boolean)] s := hK
  refine va_putF (D := D) (ci := 7) (v := .ref q7) (ty := .array .boolean) (C := RX7) (T := TX7) (N := 28) hx hb htb mu_7 tyX7 tyX7_ok nmX7 hown hK hP hD hS 0 rfl rfl 7 (by decide) (htb _ wf_7_19) (fun _ h9 => h9) rfl hin rfl (by decide +kernel) rfl rfl (Nat.le_of_ble_eq_true rfl) di_7_52 (fun H locs hP hD hS => ?_)
  have hP : va_P D mm_K [(h0, .inr (7, [.int 0, .int 0, .ref q1, .ref q3, .ref q5, .int 0, .int 0, .ref q7, .null, .int 0, .int 0, .int 0, .null, .int 0, .null, .null, .null, .int 0, .int 0, .int 0, .int 0, .null, .null, .null, .null, .int 0, .null, .null])), (q1, .inl (cA2, 4, .inl (upd (upd (upd (upd (fun _ => 0) 0 (-9 : Int32)) 1 (-9 : Int32)) 2 (-9 : Int32)) 3 (-9 : Int32)))), (q3, .inl (cA4, 4, .inl (fun _ => 0))), (q5, .inl (cA6, 240, .inl (fun _ => 0))), (q7, .inl (cA8, 42, .inl (fun _ => 0)))] H := hP
  have hD : va_D A [(h0, .inr (7, [.int 0, .int 0, .ref q1, .ref q3, .ref q5, .int 0, .int 0, .ref q7, .null, .int 0, .int 0, .int 0, .null, .int 0, .null, .null, .null, .int 0, .int 0, .int 0, .int 0, .null, .null, .null, .null, .int 0, .null, .null])), (q1, .inl (cA2, 4, .inl (upd (upd (upd (upd (fun _ => 0) 0 (-9 : Int32)) 1 (-9 : Int32)) 2 (-9 : Int32)) 3 (-9 : Int32)))), (q3, .inl (cA4, 4, .inl (fun _ => 0))), (q5, .inl (cA6, 240, .inl (fun _ => 0))), (q7, .inl (cA8, 42, .inl (fun _ => 0)))] := hD
  refine lv_aload_n hx hb di_7_55 rfl (lv_at hl 0 rfl) ?_
  refine lv_sipush (v := 1764) hx hb di_7_56 (by decide) ?_
  refine va_newa (atype := .int) (ty := .int) (a0 := (1764, .inl (fun _ => 0))) hx hb (htb _ wa_int) rfl hK hP hD hS hA (fun _ => rfl) (by decide) rfl (by decide) (Nat.le_of_ble_eq_true rfl) (Nat.le_of_ble_eq_true rfl) di_7_59 (fun q9 cA10 H hK hP hD hS => ?_)
  have hP : va_P D mm_K [(h0, .inr (7, [.int 0, .int 0, .ref q1, .ref q3, .ref q5, .int 0, .int 0, .ref q7, .null, .int 0, .int 0, .int 0, .null, .int 0, .null, .null, .null, .int 0, .int 0, .int 0, .int 0, .null, .null, .null, .null, .int 0, .null, .null])), (q1, .inl (cA2, 4, .inl (upd (upd (upd (upd (fun _ => 0) 0 (-9 : Int32)) 1 (-9 : Int32)) 2 (-9 : Int32)) 3 (-9 : Int32)))), (q3, .inl (cA4, 4, .inl (fun _ => 0))), (q5, .inl (cA6, 240, .inl (fun _ => 0))), (q7, .inl (cA8, 42, .inl (fun _ => 0))), (q9, .inl (cA10, 1764, .inl (fun _ => 0)))] H := hP
  have hD : va_D A [(h0, .inr (7, [.int 0, .int 0, .ref q1, .ref q3, .ref q5, .int 0, .int 0, .ref q7, .null, .int 0, .int 0, .int 0, .null, .int 0, .null, .null, .null, .int 0, .int 0, .int 0, .int 0, .null, .null, .null, .null, .int 0, .null, .null])), (q1, .inl (cA2, 4, .inl (upd (upd (upd (upd (fun _ => 0) 0 (-9 : Int32)) 1 (-9 : Int32)) 2 (-9 : Int32)) 3 (-9 : Int32)))), (q3, .inl (cA4, 4, .inl (fun _ => 0))), (q5, .inl (cA6, 240, .inl (fun _ => 0))), (q7, .inl (cA8, 42, .inl (fun _ => 0))), (q9, .inl (cA10, 1764, .inl (fun _ => 0)))] := hD
  have hK : va_K D mm_K [(cA2, .int), (cA4, .int), (cA6, .int), (cA8, .boolean), (cA10, .int)] s := hK
  refine va_putF (D := D) (ci := 7) (v := .ref q9) (ty := .array .int) (C := RX7) (T := TX7) (N := 28) hx hb htb mu_7 tyX7 tyX7_ok nmX7 hown hK hP hD hS 0 rfl rfl 8 (by decide) (htb _ wf_7_23) (fun _ h9 => h9) rfl hin rfl (by decide +kernel) rfl rfl (Nat.le_of_ble_eq_true rfl) di_7_61 (fun H locs hP hD hS => ?_)
  have hP : va_P D mm_K [(h0, .inr (7, [.int 0, .int 0, .ref q1, .ref q3, .ref q5, .int 0, .int 0, .ref q7, .ref q9, .int 0, .int 0, .int 0, .null, .int 0, .null, .null, .null, .int 0, .int 0, .int 0, .int 0, .null, .null, .null, .null, .int 0, .null, .null])), (q1, .inl (cA2, 4, .inl (upd (upd (upd (upd (fun _ => 0) 0 (-9 : Int32)) 1 (-9 : Int32)) 2 (-9 : Int32)) 3 (-9 : Int32)))), (q3, .inl (cA4, 4, .inl (fun _ => 0))), (q5, .inl (cA6, 240, .inl (fun _ => 0))), (q7, .inl (cA8, 42, .inl (fun _ => 0))), (q9, .inl (cA10, 1764, .inl (fun _ => 0)))] H := hP
  have hD : va_D A [(h0, .inr (7, [.int 0, .int 0, .ref q1, .ref q3, .ref q5, .int 0, .int 0, .ref q7, .ref q9, .int 0, .int 0, .int 0, .null, .int 0, .null, .null, .null, .int 0, .int 0, .int 0, .int 0, .null, .null, .null, .null, .int 0, .null, .null])), (q1, .inl (cA2, 4, .inl (upd (upd (upd (upd (fun _ => 0) 0 (-9 : Int32)) 1 (-9 : Int32)) 2 (-9 : Int32)) 3 (-9 : Int32)))), (q3, .inl (cA4, 4, .inl (fun _ => 0))), (q5, .inl (cA6, 240, .inl (fun _ => 0))), (q7, .inl (cA8, 42, .inl (fun _ => 0))), (q9, .inl (cA10, 1764, .inl (fun _ => 0)))] := hD
  refine lv_aload_n hx hb di_7_64 rfl (lv_at hl 0 rfl) ?_
  refine lv_bipush (v := 42) hx hb di_7_65 (by decide) ?_
  refine va_newa (atype := .boolean) (ty := .boolean) (a0 := (42, .inl (fun _ => 0))) hx hb (htb _ wa_boolean) rfl hK hP hD hS hA (fun _ => rfl) (by decide) rfl (by decide) (Nat.le_of_ble_eq_true rfl) (Nat.le_of_ble_eq_true rfl) di_7_67 (fun q11 cA12 H hK hP hD hS => ?_)
  have hP : va_P D mm_K [(h0, .inr (7, [.int 0, .int 0, .ref q1, .ref q3, .ref q5, .int 0, .int 0, .ref q7, .ref q9, .int 0, .int 0, .int 0, .null, .int 0, .null, .null, .null, .int 0, .int 0, .int 0, .int 0, .null, .null, .null, .null, .int 0, .null, .null])), (q1, .inl (cA2, 4, .inl (upd (upd (upd (upd (fun _ => 0) 0 (-9 : Int32)) 1 (-9 : Int32)) 2 (-9 : Int32)) 3 (-9 : Int32)))), (q3, .inl (cA4, 4, .inl (fun _ => 0))), (q5, .inl (cA6, 240, .inl (fun _ => 0))), (q7, .inl (cA8, 42, .inl (fun _ => 0))), (q9, .inl (cA10, 1764, .inl (fun _ => 0))), (q11, .inl (cA12, 42, .inl (fun _ => 0)))] H := hP
  have hD : va_D A [(h0, .inr (7, [.int 0, .int 0, .ref q1, .ref q3, .ref q5, .int 0, .int 0, .ref q7, .ref q9, .int 0, .int 0, .int 0, .null, .int 0, .null, .null, .null, .int 0, .int 0, .int 0, .int 0, .null, .null, .null, .null, .int 0, .null, .null])), (q1, .inl (cA2, 4, .inl (upd (upd (upd (upd (fun _ => 0) 0 (-9 : Int32)) 1 (-9 : Int32)) 2 (-9 : Int32)) 3 (-9 : Int32)))), (q3, .inl (cA4, 4, .inl (fun _ => 0))), (q5, .inl (cA6, 240, .inl (fun _ => 0))), (q7, .inl (cA8, 42, .inl (fun _ => 0))), (q9, .inl (cA10, 1764, .inl (fun _ => 0))), (q11, .inl (cA12, 42, .inl (fun _ => 0)))] := hD
  have hK : va_K D mm_K [(cA2, .int), (cA4, .int), (cA6, .int), (cA8, .boolean), (cA10, .int), (cA12, .boolean)] s := hK
  refine va_putF (D := D) (ci := 7) (v := .ref q11) (ty := .array .boolean) (C := RX7) (T := TX7) (N := 28) hx hb htb mu_7 tyX7 tyX7_ok nmX7 hown hK hP hD hS 0 rfl rfl 12 (by decide) (htb _ wf_7_26) (fun _ h9 => h9) rfl hin rfl (by decide +kernel) rfl rfl (Nat.le_of_ble_eq_true rfl) di_7_69 (fun H locs hP hD hS => ?_)
  have hP : va_P D mm_K [(h0, .inr (7, [.int 0, .int 0, .ref q1, .ref q3, .ref q5, .int 0, .int 0, .ref q7, .ref q9, .int 0, .int 0, .int 0, .ref q11, .int 0, .null, .null, .null, .int 0, .int 0, .int 0, .int 0, .null, .null, .null, .null, .int 0, .null, .null])), (q1, .inl (cA2, 4, .inl (upd (upd (upd (upd (fun _ => 0) 0 (-9 : Int32)) 1 (-9 : Int32)) 2 (-9 : Int32)) 3 (-9 : Int32)))), (q3, .inl (cA4, 4, .inl (fun _ => 0))), (q5, .inl (cA6, 240, .inl (fun _ => 0))), (q7, .inl (cA8, 42, .inl (fun _ => 0))), (q9, .inl (cA10, 1764, .inl (fun _ => 0))), (q11, .inl (cA12, 42, .inl (fun _ => 0)))] H := hP
  have hD : va_D A [(h0, .inr (7, [.int 0, .int 0, .ref q1, .ref q3, .ref q5, .int 0, .int 0, .ref q7, .ref q9, .int 0, .int 0, .int 0, .ref q11, .int 0, .null, .null, .null, .int 0, .int 0, .int 0, .int 0, .null, .null, .null, .null, .int 0, .null, .null])), (q1, .inl (cA2, 4, .inl (upd (upd (upd (upd (fun _ => 0) 0 (-9 : Int32)) 1 (-9 : Int32)) 2 (-9 : Int32)) 3 (-9 : Int32)))), (q3, .inl (cA4, 4, .inl (fun _ => 0))), (q5, .inl (cA6, 240, .inl (fun _ => 0))), (q7, .inl (cA8, 42, .inl (fun _ => 0))), (q9, .inl (cA10, 1764, .inl (fun _ => 0))), (q11, .inl (cA12, 42, .inl (fun _ => 0)))] := hD
  refine lv_aload_n hx hb di_7_72 rfl (lv_at hl 0 rfl) ?_
  refine lv_bipush (v := 8) hx hb di_7_73 (by decide) ?_
  refine va_newa (atype := .int) (ty := .int) (a0 := (8, .inl (fun _ => 0))) hx hb (htb _ wa_int) rfl hK hP hD hS hA (fun _ => rfl) (by decide) rfl (by decide) (Nat.le_of_ble_eq_true rfl) (Nat.le_of_ble_eq_true rfl) di_7_75 (fun q13 cA14 H hK hP hD hS => ?_)
  have hP : va_P D mm_K [(h0, .inr (7, [.int 0, .int 0, .ref q1, .ref q3, .ref q5, .int 0, .int 0, .ref q7, .ref q9, .int 0, .int 0, .int 0, .ref q11, .int 0, .null, .null, .null, .int 0, .int 0, .int 0, .int 0, .null, .null, .null, .null, .int 0, .null, .null])), (q1, .inl (cA2, 4, .inl (upd (upd (upd (upd (fun _ => 0) 0 (-9 : Int32)) 1 (-9 : Int32)) 2 (-9 : Int32)) 3 (-9 : Int32)))), (q3, .inl (cA4, 4, .inl (fun _ => 0))), (q5, .inl (cA6, 240, .inl (fun _ => 0))), (q7, .inl (cA8, 42, .inl (fun _ => 0))), (q9, .inl (cA10, 1764, .inl (fun _ => 0))), (q11, .inl (cA12, 42, .inl (fun _ => 0))), (q13, .inl (cA14, 8, .inl (fun _ => 0)))] H := hP
  have hD : va_D A [(h0, .inr (7, [.int 0, .int 0, .ref q1, .ref q3, .ref q5, .int 0, .int 0, .ref q7, .ref q9, .int 0, .int 0, .int 0, .ref q11, .int 0, .null, .null, .null, .int 0, .int 0, .int 0, .int 0, .null, .null, .null, .null, .int 0, .null, .null])), (q1, .inl (cA2, 4, .inl (upd (upd (upd (upd (fun _ => 0) 0 (-9 : Int32)) 1 (-9 : Int32)) 2 (-9 : Int32)) 3 (-9 : Int32)))), (q3, .inl (cA4, 4, .inl (fun _ => 0))), (q5, .inl (cA6, 240, .inl (fun _ => 0))), (q7, .inl (cA8, 42, .inl (fun _ => 0))), (q9, .inl (cA10, 1764, .inl (fun _ => 0))), (q11, .inl (cA12, 42, .inl (fun _ => 0))), (q13, .inl (cA14, 8, .inl (fun _ => 0)))] := hD
  have hK : va_K D mm_K [(cA2, .int), (cA4, .int), (cA6, .int), (cA8, .boolean), (cA10, .int), (cA12, .boolean), (cA14, .int)] s := hK
  refine va_putF (D := D) (ci := 7) (v := .ref q13) (ty := .array .int) (C := RX7) (T := TX7) (N := 28) hx hb htb mu_7 tyX7 tyX7_ok nmX7 hown hK hP hD hS 0 rfl rfl 14 (by decide) (htb _ wf_7_29) (fun _ h9 => h9) rfl hin rfl (by decide +kernel) rfl rfl (Nat.le_of_ble_eq_true rfl) di_7_77 (fun H locs hP hD hS => ?_)
  have hP : va_P D mm_K [(h0, .inr (7, [.int 0, .int 0, .ref q1, .ref q3, .ref q5, .int 0, .int 0, .ref q7, .ref q9, .int 0, .int 0, .int 0, .ref q11, .int 0, .ref q13, .null, .null, .int 0, .int 0, .int 0, .int 0, .null, .null, .null, .null, .int 0, .null, .null])), (q1, .inl (cA2, 4, .inl (upd (upd (upd (upd (fun _ => 0) 0 (-9 : Int32)) 1 (-9 : Int32)) 2 (-9 : Int32)) 3 (-9 : Int32)))), (q3, .inl (cA4, 4, .inl (fun _ => 0))), (q5, .inl (cA6, 240, .inl (fun _ => 0))), (q7, .inl (cA8, 42, .inl (fun _ => 0))), (q9, .inl (cA10, 1764, .inl (fun _ => 0))), (q11, .inl (cA12, 42, .inl (fun _ => 0))), (q13, .inl (cA14, 8, .inl (fun _ => 0)))] H := hP
  have hD : va_D A [(h0, .inr (7, [.int 0, .int 0, .ref q1, .ref q3, .ref q5, .int 0, .int 0, .ref q7, .ref q9, .int 0, .int 0, .int 0, .ref q11, .int 0, .ref q13, .null, .null, .int 0, .int 0, .int 0, .int 0, .null, .null, .null, .null, .int 0, .null, .null])), (q1, .inl (cA2, 4, .inl (upd (upd (upd (upd (fun _ => 0) 0 (-9 : Int32)) 1 (-9 : Int32)) 2 (-9 : Int32)) 3 (-9 : Int32)))), (q3, .inl (cA4, 4, .inl (fun _ => 0))), (q5, .inl (cA6, 240, .inl (fun _ => 0))), (q7, .inl (cA8, 42, .inl (fun _ => 0))), (q9, .inl (cA10, 1764, .inl (fun _ => 0))), (q11, .inl (cA12, 42, .inl (fun _ => 0))), (q13, .inl (cA14, 8, .inl (fun _ => 0)))] := hD
  refine lv_aload_n hx hb di_7_80 rfl (lv_at hl 0 rfl) ?_
  refine lv_bipush (v := 8) hx hb di_7_81 (by decide) ?_
  refine va_newa (atype := .int) (ty := .int) (a0 := (8, .inl (fun _ => 0))) hx hb (htb _ wa_int) rfl hK hP hD hS hA (fun _ => rfl) (by decide) rfl (by decide) (Nat.le_of_ble_eq_true rfl) (Nat.le_of_ble_eq_true rfl) di_7_83 (fun q15 cA16 H hK hP hD hS => ?_)
  have hP : va_P D mm_K [(h0, .inr (7, [.int 0, .int 0, .ref q1, .ref q3, .ref q5, .int 0, .int 0, .ref q7, .ref q9, .int 0, .int 0, .int 0, .ref q11, .int 0, .ref q13, .null, .null, .int 0, .int 0, .int 0, .int 0, .null, .null, .null, .null, .int 0, .null, .null])), (q1, .inl (cA2, 4, .inl (upd (upd (upd (upd (fun _ => 0) 0 (-9 : Int32)) 1 (-9 : Int32)) 2 (-9 : Int32)) 3 (-9 : Int32)))), (q3, .inl (cA4, 4, .inl (fun _ => 0))), (q5, .inl (cA6, 240, .inl (fun _ => 0))), (q7, .inl (cA8, 42, .inl (fun _ => 0))), (q9, .inl (cA10, 1764, .inl (fun _ => 0))), (q11, .inl (cA12, 42, .inl (fun _ => 0))), (q13, .inl (cA14, 8, .inl (fun _ => 0))), (q15, .inl (cA16, 8, .inl (fun _ => 0)))] H := hP
  have hD : va_D A [(h0, .inr (7, [.int 0, .int 0, .ref q1, .ref q3, .ref q5, .int 0, .int 0, .ref q7, .ref q9, .int 0, .int 0, .int 0, .ref q11, .int 0, .ref q13, .null, .null, .int 0, .int 0, .int 0, .int 0, .null, .null, .null, .null, .int 0, .null, .null])), (q1, .inl (cA2, 4, .inl (upd (upd (upd (upd (fun _ => 0) 0 (-9 : Int32)) 1 (-9 : Int32)) 2 (-9 : Int32)) 3 (-9 : Int32)))), (q3, .inl (cA4, 4, .inl (fun _ => 0))), (q5, .inl (cA6, 240, .inl (fun _ => 0))), (q7, .inl (cA8, 42, .inl (fun _ => 0))), (q9, .inl (cA10, 1764, .inl (fun _ => 0))), (q11, .inl (cA12, 42, .inl (fun _ => 0))), (q13, .inl (cA14, 8, .inl (fun _ => 0))), (q15, .inl (cA16, 8, .inl (fun _ => 0)))] := hD
  have hK : va_K D mm_K [(cA2, .int), (cA4, .int), (cA6, .int), (cA8, .boolean), (cA10, .int), (cA12, .boolean), (cA14, .int), (cA16, .int)] s := hK
  refine va_putF (D := D) (ci := 7) (v := .ref q15) (ty := .array .int) (C := RX7) (T := TX7) (N := 28) hx hb htb mu_7 tyX7 tyX7_ok nmX7 hown hK hP hD hS 0 rfl rfl 15 (by decide) (htb _ wf_7_32) (fun _ h9 => h9) rfl hin rfl (by decide +kernel) rfl rfl (Nat.le_of_ble_eq_true rfl) di_7_85 (fun H locs hP hD hS => ?_)
  have hP : va_P D mm_K [(h0, .inr (7, [.int 0, .int 0, .ref q1, .ref q3, .ref q5, .int 0, .int 0, .ref q7, .ref q9, .int 0, .int 0, .int 0, .ref q11, .int 0, .ref q13, .ref q15, .null, .int 0, .int 0, .int 0, .int 0, .null, .null, .null, .null, .int 0, .null, .null])), (q1, .inl (cA2, 4, .inl (upd (upd (upd (upd (fun _ => 0) 0 (-9 : Int32)) 1 (-9 : Int32)) 2 (-9 : Int32)) 3 (-9 : Int32)))), (q3, .inl (cA4, 4, .inl (fun _ => 0))), (q5, .inl (cA6, 240, .inl (fun _ => 0))), (q7, .inl (cA8, 42, .inl (fun _ => 0))), (q9, .inl (cA10, 1764, .inl (fun _ => 0))), (q11, .inl (cA12, 42, .inl (fun _ => 0))), (q13, .inl (cA14, 8, .inl (fun _ => 0))), (q15, .inl (cA16, 8, .inl (fun _ => 0)))] H := hP
  have hD : va_D A [(h0, .inr (7, [.int 0, .int 0, .ref q1, .ref q3, .ref q5, .int 0, .int 0, .ref q7, .ref q9, .int 0, .int 0, .int 0, .ref q11, .int 0, .ref q13, .ref q15, .null, .int 0, .int 0, .int 0, .int 0, .null, .null, .null, .null, .int 0, .null, .null])), (q1, .inl (cA2, 4, .inl (upd (upd (upd (upd (fun _ => 0) 0 (-9 : Int32)) 1 (-9 : Int32)) 2 (-9 : Int32)) 3 (-9 : Int32)))), (q3, .inl (cA4, 4, .inl (fun _ => 0))), (q5, .inl (cA6, 240, .inl (fun _ => 0))), (q7, .inl (cA8, 42, .inl (fun _ => 0))), (q9, .inl (cA10, 1764, .inl (fun _ => 0))), (q11, .inl (cA12, 42, .inl (fun _ => 0))), (q13, .inl (cA14, 8, .inl (fun _ => 0))), (q15, .inl (cA16, 8, .inl (fun _ => 0)))] := hD
  refine lv_aload_n hx hb di_7_88 rfl (lv_at hl 0 rfl) ?_
  refine lv_bipush (v := 8) hx hb di_7_89 (by decide) ?_
  refine va_newa (atype := .int) (ty := .int) (a0 := (8, .inl (fun _ => 0))) hx hb (htb _ wa_int) rfl hK hP hD hS hA (fun _ => rfl) (by decide) rfl (by decide) (Nat.le_of_ble_eq_true rfl) (Nat.le_of_ble_eq_true rfl) di_7_91 (fun q17 cA18 H hK hP hD hS => ?_)
  have hP : va_P D mm_K [(h0, .inr (7, [.int 0, .int 0, .ref q1, .ref q3, .ref q5, .int 0, .int 0, .ref q7, .ref q9, .int 0, .int 0, .int 0, .ref q11, .int 0, .ref q13, .ref q15, .null, .int 0, .int 0, .int 0, .int 0, .null, .null, .null, .null, .int 0, .null, .null])), (q1, .inl (cA2, 4, .inl (upd (upd (upd (upd (fun _ => 0) 0 (-9 : Int32)) 1 (-9 : Int32)) 2 (-9 : Int32)) 3 (-9 : Int32)))), (q3, .inl (cA4, 4, .inl (fun _ => 0))), (q5, .inl (cA6, 240, .inl (fun _ => 0))), (q7, .inl (cA8, 42, .inl (fun _ => 0))), (q9, .inl (cA10, 1764, .inl (fun _ => 0))), (q11, .inl (cA12, 42, .inl (fun _ => 0))), (q13, .inl (cA14, 8, .inl (fun _ => 0))), (q15, .inl (cA16, 8, .inl (fun _ => 0))), (q17, .inl (cA18, 8, .inl (fun _ => 0)))] H := hP
  have hD : va_D A [(h0, .inr (7, [.int 0, .int 0, .ref q1, .ref q3, .ref q5, .int 0, .int 0, .ref q7, .ref q9, .int 0, .int 0, .int 0, .ref q11, .int 0, .ref q13, .ref q15, .null, .int 0, .int 0, .int 0, .int 0, .null, .null, .null, .null, .int 0, .null, .null])), (q1, .inl (cA2, 4, .inl (upd (upd (upd (upd (fun _ => 0) 0 (-9 : Int32)) 1 (-9 : Int32)) 2 (-9 : Int32)) 3 (-9 : Int32)))), (q3, .inl (cA4, 4, .inl (fun _ => 0))), (q5, .inl (cA6, 240, .inl (fun _ => 0))), (q7, .inl (cA8, 42, .inl (fun _ => 0))), (q9, .inl (cA10, 1764, .inl (fun _ => 0))), (q11, .inl (cA12, 42, .inl (fun _ => 0))), (q13, .inl (cA14, 8, .inl (fun _ => 0))), (q15, .inl (cA16, 8, .inl (fun _ => 0))), (q17, .inl (cA18, 8, .inl (fun _ => 0)))] := hD
  have hK : va_K D mm_K [(cA2, .int), (cA4, .int), (cA6, .int), (cA8, .boolean), (cA10, .int), (cA12, .boolean), (cA14, .int), (cA16, .int), (cA18, .int)] s := hK
  refine va_putF (D := D) (ci := 7) (v := .ref q17) (ty := .array .int) (C := RX7) (T := TX7) (N := 28) hx hb htb mu_7 tyX7 tyX7_ok nmX7 hown hK hP hD hS 0 rfl rfl 16 (by decide) (htb _ wf_7_35) (fun _ h9 => h9) rfl hin rfl (by decide +kernel) rfl rfl (Nat.le_of_ble_eq_true rfl) di_7_93 (fun H locs hP hD hS => ?_)
  have hP : va_P D mm_K [(h0, .inr (7, [.int 0, .int 0, .ref q1, .ref q3, .ref q5, .int 0, .int 0, .ref q7, .ref q9, .int 0, .int 0, .int 0, .ref q11, .int 0, .ref q13, .ref q15, .ref q17, .int 0, .int 0, .int 0, .int 0, .null, .null, .null, .null, .int 0, .null, .null])), (q1, .inl (cA2, 4, .inl (upd (upd (upd (upd (fun _ => 0) 0 (-9 : Int32)) 1 (-9 : Int32)) 2 (-9 : Int32)) 3 (-9 : Int32)))), (q3, .inl (cA4, 4, .inl (fun _ => 0))), (q5, .inl (cA6, 240, .inl (fun _ => 0))), (q7, .inl (cA8, 42, .inl (fun _ => 0))), (q9, .inl (cA10, 1764, .inl (fun _ => 0))), (q11, .inl (cA12, 42, .inl (fun _ => 0))), (q13, .inl (cA14, 8, .inl (fun _ => 0))), (q15, .inl (cA16, 8, .inl (fun _ => 0))), (q17, .inl (cA18, 8, .inl (fun _ => 0)))] H := hP
  have hD : va_D A [(h0, .inr (7, [.int 0, .int 0, .ref q1, .ref q3, .ref q5, .int 0, .int 0, .ref q7, .ref q9, .int 0, .int 0, .int 0, .ref q11, .int 0, .ref q13, .ref q15, .ref q17, .int 0, .int 0, .int 0, .int 0, .null, .null, .null, .null, .int 0, .null, .null])), (q1, .inl (cA2, 4, .inl (upd (upd (upd (upd (fun _ => 0) 0 (-9 : Int32)) 1 (-9 : Int32)) 2 (-9 : Int32)) 3 (-9 : Int32)))), (q3, .inl (cA4, 4, .inl (fun _ => 0))), (q5, .inl (cA6, 240, .inl (fun _ => 0))), (q7, .inl (cA8, 42, .inl (fun _ => 0))), (q9, .inl (cA10, 1764, .inl (fun _ => 0))), (q11, .inl (cA12, 42, .inl (fun _ => 0))), (q13, .inl (cA14, 8, .inl (fun _ => 0))), (q15, .inl (cA16, 8, .inl (fun _ => 0))), (q17, .inl (cA18, 8, .inl (fun _ => 0)))] := hD
  refine lv_aload_n hx hb di_7_96 rfl (lv_at hl 0 rfl) ?_
  refine lv_bipush (v := 6) hx hb di_7_97 (by decide) ?_
  refine va_newa (atype := .int) (ty := .int) (a0 := (6, .inl (fun _ => 0))) hx hb (htb _ wa_int) rfl hK hP hD hS hA (fun _ => rfl) (by decide) rfl (by decide) (Nat.le_of_ble_eq_true rfl) (Nat.le_of_ble_eq_true rfl) di_7_99 (fun q19 cA20 H hK hP hD hS => ?_)
  have hP : va_P D mm_K [(h0, .inr (7, [.int 0, .int 0, .ref q1, .ref q3, .ref q5, .int 0, .int 0, .ref q7, .ref q9, .int 0, .int 0, .int 0, .ref q11, .int 0, .ref q13, .ref q15, .ref q17, .int 0, .int 0, .int 0, .int 0, .null, .null, .null, .null, .int 0, .null, .null])), (q1, .inl (cA2, 4, .inl (upd (upd (upd (upd (fun _ => 0) 0 (-9 : Int32)) 1 (-9 : Int32)) 2 (-9 : Int32)) 3 (-9 : Int32)))), (q3, .inl (cA4, 4, .inl (fun _ => 0))), (q5, .inl (cA6, 240, .inl (fun _ => 0))), (q7, .inl (cA8, 42, .inl (fun _ => 0))), (q9, .inl (cA10, 1764, .inl (fun _ => 0))), (q11, .inl (cA12, 42, .inl (fun _ => 0))), (q13, .inl (cA14, 8, .inl (fun _ => 0))), (q15, .inl (cA16, 8, .inl (fun _ => 0))), (q17, .inl (cA18, 8, .inl (fun _ => 0))), (q19, .inl (cA20, 6, .inl (fun _ => 0)))] H := hP
  have hD : va_D A [(h0, .inr (7, [.int 0, .int 0, .ref q1, .ref q3, .ref q5, .int 0, .int 0, .ref q7, .ref q9, .int 0, .int 0, .int 0, .ref q11, .int 0, .ref q13, .ref q15, .ref q17, .int 0, .int 0, .int 0, .int 0, .null, .null, .null, .null, .int 0, .null, .null])), (q1, .inl (cA2, 4, .inl (upd (upd (upd (upd (fun _ => 0) 0 (-9 : Int32)) 1 (-9 : Int32)) 2 (-9 : Int32)) 3 (-9 : Int32)))), (q3, .inl (cA4, 4, .inl (fun _ => 0))), (q5, .inl (cA6, 240, .inl (fun _ => 0))), (q7, .inl (cA8, 42, .inl (fun _ => 0))), (q9, .inl (cA10, 1764, .inl (fun _ => 0))), (q11, .inl (cA12, 42, .inl (fun _ => 0))), (q13, .inl (cA14, 8, .inl (fun _ => 0))), (q15, .inl (cA16, 8, .inl (fun _ => 0))), (q17, .inl (cA18, 8, .inl (fun _ => 0))), (q19, .inl (cA20, 6, .inl (fun _ => 0)))] := hD
  have hK : va_K D mm_K [(cA2, .int), (cA4, .int), (cA6, .int), (cA8, .boolean), (cA10, .int), (cA12, .boolean), (cA14, .int), (cA16, .int), (cA18, .int), (cA20, .int)] s := hK
  refine va_putF (D := D) (ci := 7) (v := .ref q19) (ty := .array .int) (C := RX7) (T := TX7) (N := 28) hx hb htb mu_7 tyX7 tyX7_ok nmX7 hown hK hP hD hS 0 rfl rfl 21 (by decide) (htb _ wf_7_38) (fun _ h9 => h9) rfl hin rfl (by decide +kernel) rfl rfl (Nat.le_of_ble_eq_true rfl) di_7_101 (fun H locs hP hD hS => ?_)
  have hP : va_P D mm_K [(h0, .inr (7, [.int 0, .int 0, .ref q1, .ref q3, .ref q5, .int 0, .int 0, .ref q7, .ref q9, .int 0, .int 0, .int 0, .ref q11, .int 0, .ref q13, .ref q15, .ref q17, .int 0, .int 0, .int 0, .int 0, .ref q19, .null, .null, .null, .int 0, .null, .null])), (q1, .inl (cA2, 4, .inl (upd (upd (upd (upd (fun _ => 0) 0 (-9 : Int32)) 1 (-9 : Int32)) 2 (-9 : Int32)) 3 (-9 : Int32)))), (q3, .inl (cA4, 4, .inl (fun _ => 0))), (q5, .inl (cA6, 240, .inl (fun _ => 0))), (q7, .inl (cA8, 42, .inl (fun _ => 0))), (q9, .inl (cA10, 1764, .inl (fun _ => 0))), (q11, .inl (cA12, 42, .inl (fun _ => 0))), (q13, .inl (cA14, 8, .inl (fun _ => 0))), (q15, .inl (cA16, 8, .inl (fun _ => 0))), (q17, .inl (cA18, 8, .inl (fun _ => 0))), (q19, .inl (cA20, 6, .inl (fun _ => 0)))] H := hP
  have hD : va_D A [(h0, .inr (7, [.int 0, .int 0, .ref q1, .ref q3, .ref q5, .int 0, .int 0, .ref q7, .ref q9, .int 0, .int 0, .int 0, .ref q11, .int 0, .ref q13, .ref q15, .ref q17, .int 0, .int 0, .int 0, .int 0, .ref q19, .null, .null, .null, .int 0, .null, .null])), (q1, .inl (cA2, 4, .inl (upd (upd (upd (upd (fun _ => 0) 0 (-9 : Int32)) 1 (-9 : Int32)) 2 (-9 : Int32)) 3 (-9 : Int32)))), (q3, .inl (cA4, 4, .inl (fun _ => 0))), (q5, .inl (cA6, 240, .inl (fun _ => 0))), (q7, .inl (cA8, 42, .inl (fun _ => 0))), (q9, .inl (cA10, 1764, .inl (fun _ => 0))), (q11, .inl (cA12, 42, .inl (fun _ => 0))), (q13, .inl (cA14, 8, .inl (fun _ => 0))), (q15, .inl (cA16, 8, .inl (fun _ => 0))), (q17, .inl (cA18, 8, .inl (fun _ => 0))), (q19, .inl (cA20, 6, .inl (fun _ => 0)))] := hD
  refine lv_aload_n hx hb di_7_104 rfl (lv_at hl 0 rfl) ?_
  refine lv_bipush (v := 6) hx hb di_7_105 (by decide) ?_
  refine va_newa (atype := .int) (ty := .int) (a0 := (6, .inl (fun _ => 0))) hx hb (htb _ wa_int) rfl hK hP hD hS hA (fun _ => rfl) (by decide) rfl (by decide) (Nat.le_of_ble_eq_true rfl) (Nat.le_of_ble_eq_true rfl) di_7_107 (fun q21 cA22 H hK hP hD hS => ?_)
  have hP : va_P D mm_K [(h0, .inr (7, [.int 0, .int 0, .ref q1, .ref q3, .ref q5, .int 0, .int 0, .ref q7, .ref q9, .int 0, .int 0, .int 0, .ref q11, .int 0, .ref q13, .ref q15, .ref q17, .int 0, .int 0, .int 0, .int 0, .ref q19, .null, .null, .null, .int 0, .null, .null])), (q1, .inl (cA2, 4, .inl (upd (upd (upd (upd (fun _ => 0) 0 (-9 : Int32)) 1 (-9 : Int32)) 2 (-9 : Int32)) 3 (-9 : Int32)))), (q3, .inl (cA4, 4, .inl (fun _ => 0))), (q5, .inl (cA6, 240, .inl (fun _ => 0))), (q7, .inl (cA8, 42, .inl (fun _ => 0))), (q9, .inl (cA10, 1764, .inl (fun _ => 0))), (q11, .inl (cA12, 42, .inl (fun _ => 0))), (q13, .inl (cA14, 8, .inl (fun _ => 0))), (q15, .inl (cA16, 8, .inl (fun _ => 0))), (q17, .inl (cA18, 8, .inl (fun _ => 0))), (q19, .inl (cA20, 6, .inl (fun _ => 0))), (q21, .inl (cA22, 6, .inl (fun _ => 0)))] H := hP
  have hD : va_D A [(h0, .inr (7, [.int 0, .int 0, .ref q1, .ref q3, .ref q5, .int 0, .int 0, .ref q7, .ref q9, .int 0, .int 0, .int 0, .ref q11, .int 0, .ref q13, .ref q15, .ref q17, .int 0, .int 0, .int 0, .int 0, .ref q19, .null, .null, .null, .int 0, .null, .null])), (q1, .inl (cA2, 4, .inl (upd (upd (upd (upd (fun _ => 0) 0 (-9 : Int32)) 1 (-9 : Int32)) 2 (-9 : Int32)) 3 (-9 : Int32)))), (q3, .inl (cA4, 4, .inl (fun _ => 0))), (q5, .inl (cA6, 240, .inl (fun _ => 0))), (q7, .inl (cA8, 42, .inl (fun _ => 0))), (q9, .inl (cA10, 1764, .inl (fun _ => 0))), (q11, .inl (cA12, 42, .inl (fun _ => 0))), (q13, .inl (cA14, 8, .inl (fun _ => 0))), (q15, .inl (cA16, 8, .inl (fun _ => 0))), (q17, .inl (cA18, 8, .inl (fun _ => 0))), (q19, .inl (cA20, 6, .inl (fun _ => 0))), (q21, .inl (cA22, 6, .inl (fun _ => 0)))] := hD
  have hK : va_K D mm_K [(cA2, .int), (cA4, .int), (cA6, .int), (cA8, .boolean), (cA10, .int), (cA12, .boolean), (cA14, .int), (cA16, .int), (cA18, .int), (cA20, .int), (cA22, .int)] s := hK
  refine va_putF (D := D) (ci := 7) (v := .ref q21) (ty := .array .int) (C := RX7) (T := TX7) (N := 28) hx hb htb mu_7 tyX7 tyX7_ok nmX7 hown hK hP hD hS 0 rfl rfl 22 (by decide) (htb _ wf_7_41) (fun _ h9 => h9) rfl hin rfl (by decide +kernel) rfl rfl (Nat.le_of_ble_eq_true rfl) di_7_109 (fun H locs hP hD hS => ?_)
  have hP : va_P D mm_K [(h0, .inr (7, [.int 0, .int 0, .ref q1, .ref q3, .ref q5, .int 0, .int 0, .ref q7, .ref q9, .int 0, .int 0, .int 0, .ref q11, .int 0, .ref q13, .ref q15, .ref q17, .int 0, .int 0, .int 0, .int 0, .ref q19, .ref q21, .null, .null, .int 0, .null, .null])), (q1, .inl (cA2, 4, .inl (upd (upd (upd (upd (fun _ => 0) 0 (-9 : Int32)) 1 (-9 : Int32)) 2 (-9 : Int32)) 3 (-9 : Int32)))), (q3, .inl (cA4, 4, .inl (fun _ => 0))), (q5, .inl (cA6, 240, .inl (fun _ => 0))), (q7, .inl (cA8, 42, .inl (fun _ => 0))), (q9, .inl (cA10, 1764, .inl (fun _ => 0))), (q11, .inl (cA12, 42, .inl (fun _ => 0))), (q13, .inl (cA14, 8, .inl (fun _ => 0))), (q15, .inl (cA16, 8, .inl (fun _ => 0))), (q17, .inl (cA18, 8, .inl (fun _ => 0))), (q19, .inl (cA20, 6, .inl (fun _ => 0))), (q21, .inl (cA22, 6, .inl (fun _ => 0)))] H := hP
  have hD : va_D A [(h0, .inr (7, [.int 0, .int 0, .ref q1, .ref q3, .ref q5, .int 0, .int 0, .ref q7, .ref q9, .int 0, .int 0, .int 0, .ref q11, .int 0, .ref q13, .ref q15, .ref q17, .int 0, .int 0, .int 0, .int 0, .ref q19, .ref q21, .null, .null, .int 0, .null, .null])), (q1, .inl (cA2, 4, .inl (upd (upd (upd (upd (fun _ => 0) 0 (-9 : Int32)) 1 (-9 : Int32)) 2 (-9 : Int32)) 3 (-9 : Int32)))), (q3, .inl (cA4, 4, .inl (fun _ => 0))), (q5, .inl (cA6, 240, .inl (fun _ => 0))), (q7, .inl (cA8, 42, .inl (fun _ => 0))), (q9, .inl (cA10, 1764, .inl (fun _ => 0))), (q11, .inl (cA12, 42, .inl (fun _ => 0))), (q13, .inl (cA14, 8, .inl (fun _ => 0))), (q15, .inl (cA16, 8, .inl (fun _ => 0))), (q17, .inl (cA18, 8, .inl (fun _ => 0))), (q19, .inl (cA20, 6, .inl (fun _ => 0))), (q21, .inl (cA22, 6, .inl (fun _ => 0)))] := hD
  refine lv_aload_n hx hb di_7_112 rfl (lv_at hl 0 rfl) ?_
  refine lv_sipush (v := 3636) hx hb di_7_113 (by decide) ?_
  refine va_newa (atype := .boolean) (ty := .boolean) (a0 := (3636, .inl (fun _ => 0))) hx hb (htb _ wa_boolean) rfl hK hP hD hS hA (fun _ => rfl) (by decide) rfl (by decide) (Nat.le_of_ble_eq_true rfl) (Nat.le_of_ble_eq_true rfl) di_7_116 (fun q23 cA24 H hK hP hD hS => ?_)
  have hP : va_P D mm_K [(h0, .inr (7, [.int 0, .int 0, .ref q1, .ref q3, .ref q5, .int 0, .int 0, .ref q7, .ref q9, .int 0, .int 0, .int 0, .ref q11, .int 0, .ref q13, .ref q15, .ref q17, .int 0, .int 0, .int 0, .int 0, .ref q19, .ref q21, .null, .null, .int 0, .null, .null])), (q1, .inl (cA2, 4, .inl (upd (upd (upd (upd (fun _ => 0) 0 (-9 : Int32)) 1 (-9 : Int32)) 2 (-9 : Int32)) 3 (-9 : Int32)))), (q3, .inl (cA4, 4, .inl (fun _ => 0))), (q5, .inl (cA6, 240, .inl (fun _ => 0))), (q7, .inl (cA8, 42, .inl (fun _ => 0))), (q9, .inl (cA10, 1764, .inl (fun _ => 0))), (q11, .inl (cA12, 42, .inl (fun _ => 0))), (q13, .inl (cA14, 8, .inl (fun _ => 0))), (q15, .inl (cA16, 8, .inl (fun _ => 0))), (q17, .inl (cA18, 8, .inl (fun _ => 0))), (q19, .inl (cA20, 6, .inl (fun _ => 0))), (q21, .inl (cA22, 6, .inl (fun _ => 0))), (q23, .inl (cA24, 3636, .inl (fun _ => 0)))] H := hP
  have hD : va_D A [(h0, .inr (7, [.int 0, .int 0, .ref q1, .ref q3, .ref q5, .int 0, .int 0, .ref q7, .ref q9, .int 0, .int 0, .int 0, .ref q11, .int 0, .ref q13, .ref q15, .ref q17, .int 0, .int 0, .int 0, .int 0, .ref q19, .ref q21, .null, .null, .int 0, .null, .null])), (q1, .inl (cA2, 4, .inl (upd (upd (upd (upd (fun _ => 0) 0 (-9 : Int32)) 1 (-9 : Int32)) 2 (-9 : Int32)) 3 (-9 : Int32)))), (q3, .inl (cA4, 4, .inl (fun _ => 0))), (q5, .inl (cA6, 240, .inl (fun _ => 0))), (q7, .inl (cA8, 42, .inl (fun _ => 0))), (q9, .inl (cA10, 1764, .inl (fun _ => 0))), (q11, .inl (cA12, 42, .inl (fun _ => 0))), (q13, .inl (cA14, 8, .inl (fun _ => 0))), (q15, .inl (cA16, 8, .inl (fun _ => 0))), (q17, .inl (cA18, 8, .inl (fun _ => 0))), (q19, .inl (cA20, 6, .inl (fun _ => 0))), (q21, .inl (cA22, 6, .inl (fun _ => 0))), (q23, .inl (cA24, 3636, .inl (fun _ => 0)))] := hD
  have hK : va_K D mm_K [(cA2, .int), (cA4, .int), (cA6, .int), (cA8, .boolean), (cA10, .int), (cA12, .boolean), (cA14, .int), (cA16, .int), (cA18, .int), (cA20, .int), (cA22, .int), (cA24, .boolean)] s := hK
  refine va_putF (D := D) (ci := 7) (v := .ref q23) (ty := .array .boolean) (C := RX7) (T := TX7) (N := 28) hx hb htb mu_7 tyX7 tyX7_ok nmX7 hown hK hP hD hS 0 rfl rfl 23 (by decide) (htb _ wf_7_44) (fun _ h9 => h9) rfl hin rfl (by decide +kernel) rfl rfl (Nat.le_of_ble_eq_true rfl) di_7_118 (fun H locs hP hD hS => ?_)
  have hP : va_P D mm_K [(h0, .inr (7, [.int 0, .int 0, .ref q1, .ref q3, .ref q5, .int 0, .int 0, .ref q7, .ref q9, .int 0, .int 0, .int 0, .ref q11, .int 0, .ref q13, .ref q15, .ref q17, .int 0, .int 0, .int 0, .int 0, .ref q19, .ref q21, .ref q23, .null, .int 0, .null, .null])), (q1, .inl (cA2, 4, .inl (upd (upd (upd (upd (fun _ => 0) 0 (-9 : Int32)) 1 (-9 : Int32)) 2 (-9 : Int32)) 3 (-9 : Int32)))), (q3, .inl (cA4, 4, .inl (fun _ => 0))), (q5, .inl (cA6, 240, .inl (fun _ => 0))), (q7, .inl (cA8, 42, .inl (fun _ => 0))), (q9, .inl (cA10, 1764, .inl (fun _ => 0))), (q11, .inl (cA12, 42, .inl (fun _ => 0))), (q13, .inl (cA14, 8, .inl (fun _ => 0))), (q15, .inl (cA16, 8, .inl (fun _ => 0))), (q17, .inl (cA18, 8, .inl (fun _ => 0))), (q19, .inl (cA20, 6, .inl (fun _ => 0))), (q21, .inl (cA22, 6, .inl (fun _ => 0))), (q23, .inl (cA24, 3636, .inl (fun _ => 0)))] H := hP
  have hD : va_D A [(h0, .inr (7, [.int 0, .int 0, .ref q1, .ref q3, .ref q5, .int 0, .int 0, .ref q7, .ref q9, .int 0, .int 0, .int 0, .ref q11, .int 0, .ref q13, .ref q15, .ref q17, .int 0, .int 0, .int 0, .int 0, .ref q19, .ref q21, .ref q23, .null, .int 0, .null, .null])), (q1, .inl (cA2, 4, .inl (upd (upd (upd (upd (fun _ => 0) 0 (-9 : Int32)) 1 (-9 : Int32)) 2 (-9 : Int32)) 3 (-9 : Int32)))), (q3, .inl (cA4, 4, .inl (fun _ => 0))), (q5, .inl (cA6, 240, .inl (fun _ => 0))), (q7, .inl (cA8, 42, .inl (fun _ => 0))), (q9, .inl (cA10, 1764, .inl (fun _ => 0))), (q11, .inl (cA12, 42, .inl (fun _ => 0))), (q13, .inl (cA14, 8, .inl (fun _ => 0))), (q15, .inl (cA16, 8, .inl (fun _ => 0))), (q17, .inl (cA18, 8, .inl (fun _ => 0))), (q19, .inl (cA20, 6, .inl (fun _ => 0))), (q21, .inl (cA22, 6, .inl (fun _ => 0))), (q23, .inl (cA24, 3636, .inl (fun _ => 0)))] := hD
  refine lv_aload_n hx hb di_7_121 rfl (lv_at hl 0 rfl) ?_
  refine lv_bipush (v := 6) hx hb di_7_122 (by decide) ?_
  refine va_newa (atype := .int) (ty := .int) (a0 := (6, .inl (fun _ => 0))) hx hb (htb _ wa_int) rfl hK hP hD hS hA (fun _ => rfl) (by decide) rfl (by decide) (Nat.le_of_ble_eq_true rfl) (Nat.le_of_ble_eq_true rfl) di_7_124 (fun q25 cA26 H hK hP hD hS => ?_)
  have hP : va_P D mm_K [(h0, .inr (7, [.int 0, .int 0, .ref q1, .ref q3, .ref q5, .int 0, .int 0, .ref q7, .ref q9, .int 0, .int 0, .int 0, .ref q11, .int 0, .ref q13, .ref q15, .ref q17, .int 0, .int 0, .int 0, .int 0, .ref q19, .ref q21, .ref q23, .null, .int 0, .null, .null])), (q1, .inl (cA2, 4, .inl (upd (upd (upd (upd (fun _ => 0) 0 (-9 : Int32)) 1 (-9 : Int32)) 2 (-9 : Int32)) 3 (-9 : Int32)))), (q3, .inl (cA4, 4, .inl (fun _ => 0))), (q5, .inl (cA6, 240, .inl (fun _ => 0))), (q7, .inl (cA8, 42, .inl (fun _ => 0))), (q9, .inl (cA10, 1764, .inl (fun _ => 0))), (q11, .inl (cA12, 42, .inl (fun _ => 0))), (q13, .inl (cA14, 8, .inl (fun _ => 0))), (q15, .inl (cA16, 8, .inl (fun _ => 0))), (q17, .inl (cA18, 8, .inl (fun _ => 0))), (q19, .inl (cA20, 6, .inl (fun _ => 0))), (q21, .inl (cA22, 6, .inl (fun _ => 0))), (q23, .inl (cA24, 3636, .inl (fun _ => 0))), (q25, .inl (cA26, 6, .inl (fun _ => 0)))] H := hP
  have hD : va_D A [(h0, .inr (7, [.int 0, .int 0, .ref q1, .ref q3, .ref q5, .int 0, .int 0, .ref q7, .ref q9, .int 0, .int 0, .int 0, .ref q11, .int 0, .ref q13, .ref q15, .ref q17, .int 0, .int 0, .int 0, .int 0, .ref q19, .ref q21, .ref q23, .null, .int 0, .null, .null])), (q1, .inl (cA2, 4, .inl (upd (upd (upd (upd (fun _ => 0) 0 (-9 : Int32)) 1 (-9 : Int32)) 2 (-9 : Int32)) 3 (-9 : Int32)))), (q3, .inl (cA4, 4, .inl (fun _ => 0))), (q5, .inl (cA6, 240, .inl (fun _ => 0))), (q7, .inl (cA8, 42, .inl (fun _ => 0))), (q9, .inl (cA10, 1764, .inl (fun _ => 0))), (q11, .inl (cA12, 42, .inl (fun _ => 0))), (q13, .inl (cA14, 8, .inl (fun _ => 0))), (q15, .inl (cA16, 8, .inl (fun _ => 0))), (q17, .inl (cA18, 8, .inl (fun _ => 0))), (q19, .inl (cA20, 6, .inl (fun _ => 0))), (q21, .inl (cA22, 6, .inl (fun _ => 0))), (q23, .inl (cA24, 3636, .inl (fun _ => 0))), (q25, .inl (cA26, 6, .inl (fun _ => 0)))] := hD
  have hK : va_K D mm_K [(cA2, .int), (cA4, .int), (cA6, .int), (cA8, .boolean), (cA10, .int), (cA12, .boolean), (cA14, .int), (cA16, .int), (cA18, .int), (cA20, .int), (cA22, .int), (cA24, .boolean), (cA26, .int)] s := hK
  refine va_putF (D := D) (ci := 7) (v := .ref q25) (ty := .array .int) (C := RX7) (T := TX7) (N := 28) hx hb htb mu_7 tyX7 tyX7_ok nmX7 hown hK hP hD hS 0 rfl rfl 24 (by decide) (htb _ wf_7_47) (fun _ h9 => h9) rfl hin rfl (by decide +kernel) rfl rfl (Nat.le_of_ble_eq_true rfl) di_7_126 (fun H locs hP hD hS => ?_)
  have hP : va_P D mm_K [(h0, .inr (7, [.int 0, .int 0, .ref q1, .ref q3, .ref q5, .int 0, .int 0, .ref q7, .ref q9, .int 0, .int 0, .int 0, .ref q11, .int 0, .ref q13, .ref q15, .ref q17, .int 0, .int 0, .int 0, .int 0, .ref q19, .ref q21, .ref q23, .ref q25, .int 0, .null, .null])), (q1, .inl (cA2, 4, .inl (upd (upd (upd (upd (fun _ => 0) 0 (-9 : Int32)) 1 (-9 : Int32)) 2 (-9 : Int32)) 3 (-9 : Int32)))), (q3, .inl (cA4, 4, .inl (fun _ => 0))), (q5, .inl (cA6, 240, .inl (fun _ => 0))), (q7, .inl (cA8, 42, .inl (fun _ => 0))), (q9, .inl (cA10, 1764, .inl (fun _ => 0))), (q11, .inl (cA12, 42, .inl (fun _ => 0))), (q13, .inl (cA14, 8, .inl (fun _ => 0))), (q15, .inl (cA16, 8, .inl (fun _ => 0))), (q17, .inl (cA18, 8, .inl (fun _ => 0))), (q19, .inl (cA20, 6, .inl (fun _ => 0))), (q21, .inl (cA22, 6, .inl (fun _ => 0))), (q23, .inl (cA24, 3636, .inl (fun _ => 0))), (q25, .inl (cA26, 6, .inl (fun _ => 0)))] H := hP
  have hD : va_D A [(h0, .inr (7, [.int 0, .int 0, .ref q1, .ref q3, .ref q5, .int 0, .int 0, .ref q7, .ref q9, .int 0, .int 0, .int 0, .ref q11, .int 0, .ref q13, .ref q15, .ref q17, .int 0, .int 0, .int 0, .int 0, .ref q19, .ref q21, .ref q23, .ref q25, .int 0, .null, .null])), (q1, .inl (cA2, 4, .inl (upd (upd (upd (upd (fun _ => 0) 0 (-9 : Int32)) 1 (-9 : Int32)) 2 (-9 : Int32)) 3 (-9 : Int32)))), (q3, .inl (cA4, 4, .inl (fun _ => 0))), (q5, .inl (cA6, 240, .inl (fun _ => 0))), (q7, .inl (cA8, 42, .inl (fun _ => 0))), (q9, .inl (cA10, 1764, .inl (fun _ => 0))), (q11, .inl (cA12, 42, .inl (fun _ => 0))), (q13, .inl (cA14, 8, .inl (fun _ => 0))), (q15, .inl (cA16, 8, .inl (fun _ => 0))), (q17, .inl (cA18, 8, .inl (fun _ => 0))), (q19, .inl (cA20, 6, .inl (fun _ => 0))), (q21, .inl (cA22, 6, .inl (fun _ => 0))), (q23, .inl (cA24, 3636, .inl (fun _ => 0))), (q25, .inl (cA26, 6, .inl (fun _ => 0)))] := hD
  refine lv_aload_n hx hb di_7_129 rfl (lv_at hl 0 rfl) ?_
  refine lv_bipush (v := 6) hx hb di_7_130 (by decide) ?_
  refine va_newa (atype := .int) (ty := .int) (a0 := (6, .inl (fun _ => 0))) hx hb (htb _ wa_int) rfl hK hP hD hS hA (fun _ => rfl) (by decide) rfl (by decide) (Nat.le_of_ble_eq_true rfl) (Nat.le_of_ble_eq_true rfl) di_7_132 (fun q27 cA28 H hK hP hD hS => ?_)
  have hP : va_P D mm_K [(h0, .inr (7, [.int 0, .int 0, .ref q1, .ref q3, .ref q5, .int 0, .int 0, .ref q7, .ref q9, .int 0, .int 0, .int 0, .ref q11, .int 0, .ref q13, .ref q15, .ref q17, .int 0, .int 0, .int 0, .int 0, .ref q19, .ref q21, .ref q23, .ref q25, .int 0, .null, .null])), (q1, .inl (cA2, 4, .inl (upd (upd (upd (upd (fun _ => 0) 0 (-9 : Int32)) 1 (-9 : Int32)) 2 (-9 : Int32)) 3 (-9 : Int32)))), (q3, .inl (cA4, 4, .inl (fun _ => 0))), (q5, .inl (cA6, 240, .inl (fun _ => 0))), (q7, .inl (cA8, 42, .inl (fun _ => 0))), (q9, .inl (cA10, 1764, .inl (fun _ => 0))), (q11, .inl (cA12, 42, .inl (fun _ => 0))), (q13, .inl (cA14, 8, .inl (fun _ => 0))), (q15, .inl (cA16, 8, .inl (fun _ => 0))), (q17, .inl (cA18, 8, .inl (fun _ => 0))), (q19, .inl (cA20, 6, .inl (fun _ => 0))), (q21, .inl (cA22, 6, .inl (fun _ => 0))), (q23, .inl (cA24, 3636, .inl (fun _ => 0))), (q25, .inl (cA26, 6, .inl (fun _ => 0))), (q27, .inl (cA28, 6, .inl (fun _ => 0)))] H := hP
  have hD : va_D A [(h0, .inr (7, [.int 0, .int 0, .ref q1, .ref q3, .ref q5, .int 0, .int 0, .ref q7, .ref q9, .int 0, .int 0, .int 0, .ref q11, .int 0, .ref q13, .ref q15, .ref q17, .int 0, .int 0, .int 0, .int 0, .ref q19, .ref q21, .ref q23, .ref q25, .int 0, .null, .null])), (q1, .inl (cA2, 4, .inl (upd (upd (upd (upd (fun _ => 0) 0 (-9 : Int32)) 1 (-9 : Int32)) 2 (-9 : Int32)) 3 (-9 : Int32)))), (q3, .inl (cA4, 4, .inl (fun _ => 0))), (q5, .inl (cA6, 240, .inl (fun _ => 0))), (q7, .inl (cA8, 42, .inl (fun _ => 0))), (q9, .inl (cA10, 1764, .inl (fun _ => 0))), (q11, .inl (cA12, 42, .inl (fun _ => 0))), (q13, .inl (cA14, 8, .inl (fun _ => 0))), (q15, .inl (cA16, 8, .inl (fun _ => 0))), (q17, .inl (cA18, 8, .inl (fun _ => 0))), (q19, .inl (cA20, 6, .inl (fun _ => 0))), (q21, .inl (cA22, 6, .inl (fun _ => 0))), (q23, .inl (cA24, 3636, .inl (fun _ => 0))), (q25, .inl (cA26, 6, .inl (fun _ => 0))), (q27, .inl (cA28, 6, .inl (fun _ => 0)))] := hD
  have hK : va_K D mm_K [(cA2, .int), (cA4, .int), (cA6, .int), (cA8, .boolean), (cA10, .int), (cA12, .boolean), (cA14, .int), (cA16, .int), (cA18, .int), (cA20, .int), (cA22, .int), (cA24, .boolean), (cA26, .int), (cA28, .int)] s := hK
  refine va_putF (D := D) (ci := 7) (v := .ref q27) (ty := .array .int) (C := RX7) (T := TX7) (N := 28) hx hb htb mu_7 tyX7 tyX7_ok nmX7 hown hK hP hD hS 0 rfl rfl 26 (by decide) (htb _ wf_7_50) (fun _ h9 => h9) rfl hin rfl (by decide +kernel) rfl rfl (Nat.le_of_ble_eq_true rfl) di_7_134 (fun H locs hP hD hS => ?_)
  have hP : va_P D mm_K [(h0, .inr (7, [.int 0, .int 0, .ref q1, .ref q3, .ref q5, .int 0, .int 0, .ref q7, .ref q9, .int 0, .int 0, .int 0, .ref q11, .int 0, .ref q13, .ref q15, .ref q17, .int 0, .int 0, .int 0, .int 0, .ref q19, .ref q21, .ref q23, .ref q25, .int 0, .ref q27, .null])), (q1, .inl (cA2, 4, .inl (upd (upd (upd (upd (fun _ => 0) 0 (-9 : Int32)) 1 (-9 : Int32)) 2 (-9 : Int32)) 3 (-9 : Int32)))), (q3, .inl (cA4, 4, .inl (fun _ => 0))), (q5, .inl (cA6, 240, .inl (fun _ => 0))), (q7, .inl (cA8, 42, .inl (fun _ => 0))), (q9, .inl (cA10, 1764, .inl (fun _ => 0))), (q11, .inl (cA12, 42, .inl (fun _ => 0))), (q13, .inl (cA14, 8, .inl (fun _ => 0))), (q15, .inl (cA16, 8, .inl (fun _ => 0))), (q17, .inl (cA18, 8, .inl (fun _ => 0))), (q19, .inl (cA20, 6, .inl (fun _ => 0))), (q21, .inl (cA22, 6, .inl (fun _ => 0))), (q23, .inl (cA24, 3636, .inl (fun _ => 0))), (q25, .inl (cA26, 6, .inl (fun _ => 0))), (q27, .inl (cA28, 6, .inl (fun _ => 0)))] H := hP
  have hD : va_D A [(h0, .inr (7, [.int 0, .int 0, .ref q1, .ref q3, .ref q5, .int 0, .int 0, .ref q7, .ref q9, .int 0, .int 0, .int 0, .ref q11, .int 0, .ref q13, .ref q15, .ref q17, .int 0, .int 0, .int 0, .int 0, .ref q19, .ref q21, .ref q23, .ref q25, .int 0, .ref q27, .null])), (q1, .inl (cA2, 4, .inl (upd (upd (upd (upd (fun _ => 0) 0 (-9 : Int32)) 1 (-9 : Int32)) 2 (-9 : Int32)) 3 (-9 : Int32)))), (q3, .inl (cA4, 4, .inl (fun _ => 0))), (q5, .inl (cA6, 240, .inl (fun _ => 0))), (q7, .inl (cA8, 42, .inl (fun _ => 0))), (q9, .inl (cA10, 1764, .inl (fun _ => 0))), (q11, .inl (cA12, 42, .inl (fun _ => 0))), (q13, .inl (cA14, 8, .inl (fun _ => 0))), (q15, .inl (cA16, 8, .inl (fun _ => 0))), (q17, .inl (cA18, 8, .inl (fun _ => 0))), (q19, .inl (cA20, 6, .inl (fun _ => 0))), (q21, .inl (cA22, 6, .inl (fun _ => 0))), (q23, .inl (cA24, 3636, .inl (fun _ => 0))), (q25, .inl (cA26, 6, .inl (fun _ => 0))), (q27, .inl (cA28, 6, .inl (fun _ => 0)))] := hD
  refine lv_aload_n hx hb di_7_137 rfl (lv_at hl 0 rfl) ?_
  refine lv_bipush (v := 6) hx hb di_7_138 (by decide) ?_
  refine va_newa (atype := .int) (ty := .int) (a0 := (6, .inl (fun _ => 0))) hx hb (htb _ wa_int) rfl hK hP hD hS hA (fun _ => rfl) (by decide) rfl (by decide) (Nat.le_of_ble_eq_true rfl) (Nat.le_of_ble_eq_true rfl) di_7_140 (fun q29 cA30 H hK hP hD hS => ?_)
  have hP : va_P D mm_K [(h0, .inr (7, [.int 0, .int 0, .ref q1, .ref q3, .ref q5, .int 0, .int 0, .ref q7, .ref q9, .int 0, .int 0, .int 0, .ref q11, .int 0, .ref q13, .ref q15, .ref q17, .int 0, .int 0, .int 0, .int 0, .ref q19, .ref q21, .ref q23, .ref q25, .int 0, .ref q27, .null])), (q1, .inl (cA2, 4, .inl (upd (upd (upd (upd (fun _ => 0) 0 (-9 : Int32)) 1 (-9 : Int32)) 2 (-9 : Int32)) 3 (-9 : Int32)))), (q3, .inl (cA4, 4, .inl (fun _ => 0))), (q5, .inl (cA6, 240, .inl (fun _ => 0))), (q7, .inl (cA8, 42, .inl (fun _ => 0))), (q9, .inl (cA10, 1764, .inl (fun _ => 0))), (q11, .inl (cA12, 42, .inl (fun _ => 0))), (q13, .inl (cA14, 8, .inl (fun _ => 0))), (q15, .inl (cA16, 8, .inl (fun _ => 0))), (q17, .inl (cA18, 8, .inl (fun _ => 0))), (q19, .inl (cA20, 6, .inl (fun _ => 0))), (q21, .inl (cA22, 6, .inl (fun _ => 0))), (q23, .inl (cA24, 3636, .inl (fun _ => 0))), (q25, .inl (cA26, 6, .inl (fun _ => 0))), (q27, .inl (cA28, 6, .inl (fun _ => 0))), (q29, .inl (cA30, 6, .inl (fun _ => 0)))] H := hP
  have hD : va_D A [(h0, .inr (7, [.int 0, .int 0, .ref q1, .ref q3, .ref q5, .int 0, .int 0, .ref q7, .ref q9, .int 0, .int 0, .int 0, .ref q11, .int 0, .ref q13, .ref q15, .ref q17, .int 0, .int 0, .int 0, .int 0, .ref q19, .ref q21, .ref q23, .ref q25, .int 0, .ref q27, .null])), (q1, .inl (cA2, 4, .inl (upd (upd (upd (upd (fun _ => 0) 0 (-9 : Int32)) 1 (-9 : Int32)) 2 (-9 : Int32)) 3 (-9 : Int32)))), (q3, .inl (cA4, 4, .inl (fun _ => 0))), (q5, .inl (cA6, 240, .inl (fun _ => 0))), (q7, .inl (cA8, 42, .inl (fun _ => 0))), (q9, .inl (cA10, 1764, .inl (fun _ => 0))), (q11, .inl (cA12, 42, .inl (fun _ => 0))), (q13, .inl (cA14, 8, .inl (fun _ => 0))), (q15, .inl (cA16, 8, .inl (fun _ => 0))), (q17, .inl (cA18, 8, .inl (fun _ => 0))), (q19, .inl (cA20, 6, .inl (fun _ => 0))), (q21, .inl (cA22, 6, .inl (fun _ => 0))), (q23, .inl (cA24, 3636, .inl (fun _ => 0))), (q25, .inl (cA26, 6, .inl (fun _ => 0))), (q27, .inl (cA28, 6, .inl (fun _ => 0))), (q29, .inl (cA30, 6, .inl (fun _ => 0)))] := hD
  have hK : va_K D mm_K [(cA2, .int), (cA4, .int), (cA6, .int), (cA8, .boolean), (cA10, .int), (cA12, .boolean), (cA14, .int), (cA16, .int), (cA18, .int), (cA20, .int), (cA22, .int), (cA24, .boolean), (cA26, .int), (cA28, .int), (cA30, .int)] s := hK
  refine va_putF (D := D) (ci := 7) (v := .ref q29) (ty := .array .int) (C := RX7) (T := TX7) (N := 28) hx hb htb mu_7 tyX7 tyX7_ok nmX7 hown hK hP hD hS 0 rfl rfl 27 (by decide) (htb _ wf_7_53) (fun _ h9 => h9) rfl hin rfl (by decide +kernel) rfl rfl (Nat.le_of_ble_eq_true rfl) di_7_142 (fun H locs hP hD hS => ?_)
  have hP : va_P D mm_K [(h0, .inr (7, [.int 0, .int 0, .ref q1, .ref q3, .ref q5, .int 0, .int 0, .ref q7, .ref q9, .int 0, .int 0, .int 0, .ref q11, .int 0, .ref q13, .ref q15, .ref q17, .int 0, .int 0, .int 0, .int 0, .ref q19, .ref q21, .ref q23, .ref q25, .int 0, .ref q27, .ref q29])), (q1, .inl (cA2, 4, .inl (upd (upd (upd (upd (fun _ => 0) 0 (-9 : Int32)) 1 (-9 : Int32)) 2 (-9 : Int32)) 3 (-9 : Int32)))), (q3, .inl (cA4, 4, .inl (fun _ => 0))), (q5, .inl (cA6, 240, .inl (fun _ => 0))), (q7, .inl (cA8, 42, .inl (fun _ => 0))), (q9, .inl (cA10, 1764, .inl (fun _ => 0))), (q11, .inl (cA12, 42, .inl (fun _ => 0))), (q13, .inl (cA14, 8, .inl (fun _ => 0))), (q15, .inl (cA16, 8, .inl (fun _ => 0))), (q17, .inl (cA18, 8, .inl (fun _ => 0))), (q19, .inl (cA20, 6, .inl (fun _ => 0))), (q21, .inl (cA22, 6, .inl (fun _ => 0))), (q23, .inl (cA24, 3636, .inl (fun _ => 0))), (q25, .inl (cA26, 6, .inl (fun _ => 0))), (q27, .inl (cA28, 6, .inl (fun _ => 0))), (q29, .inl (cA30, 6, .inl (fun _ => 0)))] H := hP
  have hD : va_D A [(h0, .inr (7, [.int 0, .int 0, .ref q1, .ref q3, .ref q5, .int 0, .int 0, .ref q7, .ref q9, .int 0, .int 0, .int 0, .ref q11, .int 0, .ref q13, .ref q15, .ref q17, .int 0, .int 0, .int 0, .int 0, .ref q19, .ref q21, .ref q23, .ref q25, .int 0, .ref q27, .ref q29])), (q1, .inl (cA2, 4, .inl (upd (upd (upd (upd (fun _ => 0) 0 (-9 : Int32)) 1 (-9 : Int32)) 2 (-9 : Int32)) 3 (-9 : Int32)))), (q3, .inl (cA4, 4, .inl (fun _ => 0))), (q5, .inl (cA6, 240, .inl (fun _ => 0))), (q7, .inl (cA8, 42, .inl (fun _ => 0))), (q9, .inl (cA10, 1764, .inl (fun _ => 0))), (q11, .inl (cA12, 42, .inl (fun _ => 0))), (q13, .inl (cA14, 8, .inl (fun _ => 0))), (q15, .inl (cA16, 8, .inl (fun _ => 0))), (q17, .inl (cA18, 8, .inl (fun _ => 0))), (q19, .inl (cA20, 6, .inl (fun _ => 0))), (q21, .inl (cA22, 6, .inl (fun _ => 0))), (q23, .inl (cA24, 3636, .inl (fun _ => 0))), (q25, .inl (cA26, 6, .inl (fun _ => 0))), (q27, .inl (cA28, 6, .inl (fun _ => 0))), (q29, .inl (cA30, 6, .inl (fun _ => 0)))] := hD
  refine W.widen (k := 15) (n := 5786) (Nat.le_of_ble_eq_true rfl) (Nat.le_of_ble_eq_true rfl) ?_
  exact W.vret hx hb hr (fun t ht hW => ⟨⟨(), rfl, trivial, q1, q3, q5, q7, q9, q11, q13, q15, q17, q19, q21, q23, q25, q27, q29, cA2, cA4, cA6, cA8, cA10, cA12, cA14, cA16, cA18, cA20, cA22, cA24, cA26, cA28, cA30, by rw [ht]; exact hP, va_K.moved hW.alike hK, hD⟩, hS.F ht⟩) hS.2.2 di_7_145
