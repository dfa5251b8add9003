section
-- ===== PART A: goes FIRST, ahead of the names: the tables' words, and 'selects' of the private methods out of them =====
/-- a private method of a class that the tables say can be made, by its rows of tables_1 -/
def lw_okq (q : MethodName × Nat) : Prop := (q.1.cls ≠ "java/lang/invoke/MethodHandle" ∧ q.1.cls ≠ "java/lang/invoke/VarHandle") ∧ Cond.instantiable q.1.cls q.2 ∈ tables_1 ∧ Cond.privateMethod q.1 ∈ tables_1 ∧ Cond.instanceMethod q.1 ∈ tables_1
theorem lw_p0 : lw_okq (⟨"PondRings", "faulty", "(I)I"⟩, 11) := ⟨⟨by decide +kernel, by decide +kernel⟩, List.mem_of_getElem? (i := 15) (by decide +kernel), List.mem_of_getElem? (i := 225) (by decide +kernel), List.mem_of_getElem? (i := 226) (by decide +kernel)⟩
theorem lw_p1 : lw_okq (⟨"PondRings$PondText", "goesOn", "(II)Z"⟩, 3) := ⟨⟨by decide +kernel, by decide +kernel⟩, List.mem_of_getElem? (i := 48) (by decide +kernel), List.mem_of_getElem? (i := 237) (by decide +kernel), List.mem_of_getElem? (i := 238) (by decide +kernel)⟩
theorem lw_p2 : lw_okq (⟨"PondRings$PondText", "end", "()I"⟩, 3) := ⟨⟨by decide +kernel, by decide +kernel⟩, List.mem_of_getElem? (i := 48) (by decide +kernel), List.mem_of_getElem? (i := 241) (by decide +kernel), List.mem_of_getElem? (i := 242) (by decide +kernel)⟩
theorem lw_p3 : lw_okq (⟨"PondRings$PondText", "goesOnInRows", "(II)Z"⟩, 3) := ⟨⟨by decide +kernel, by decide +kernel⟩, List.mem_of_getElem? (i := 48) (by decide +kernel), List.mem_of_getElem? (i := 245) (by decide +kernel), List.mem_of_getElem? (i := 246) (by decide +kernel)⟩
theorem lw_p4 : lw_okq (⟨"PondRings$Pond", "spread", "(I)V"⟩, 8) := ⟨⟨by decide +kernel, by decide +kernel⟩, List.mem_of_getElem? (i := 67) (by decide +kernel), List.mem_of_getElem? (i := 286) (by decide +kernel), List.mem_of_getElem? (i := 287) (by decide +kernel)⟩
theorem lw_p5 : lw_okq (⟨"PondRings$Timetable", "learnPair", "(IILPondRings$Pond;LPondRings$Listing;LPondRings$Meeting;)V"⟩, 8) := ⟨⟨by decide +kernel, by decide +kernel⟩, List.mem_of_getElem? (i := 143) (by decide +kernel), List.mem_of_getElem? (i := 383) (by decide +kernel), List.mem_of_getElem? (i := 384) (by decide +kernel)⟩
theorem lw_p6 : lw_okq (⟨"PondRings", "mostTogether", "()I"⟩, 11) := ⟨⟨by decide +kernel, by decide +kernel⟩, List.mem_of_getElem? (i := 15) (by decide +kernel), List.mem_of_getElem? (i := 412) (by decide +kernel), List.mem_of_getElem? (i := 413) (by decide +kernel)⟩
theorem lw_p7 : lw_okq (⟨"PondRings", "findClashes", "()V"⟩, 11) := ⟨⟨by decide +kernel, by decide +kernel⟩, List.mem_of_getElem? (i := 15) (by decide +kernel), List.mem_of_getElem? (i := 416) (by decide +kernel), List.mem_of_getElem? (i := 417) (by decide +kernel)⟩
theorem lw_p8 : lw_okq (⟨"PondRings", "isPeaceful", "(I)Z"⟩, 11) := ⟨⟨by decide +kernel, by decide +kernel⟩, List.mem_of_getElem? (i := 15) (by decide +kernel), List.mem_of_getElem? (i := 430) (by decide +kernel), List.mem_of_getElem? (i := 431) (by decide +kernel)⟩
theorem lw_p9 : lw_okq (⟨"PondRings$Timetable", "widestPair", "(I)I"⟩, 8) := ⟨⟨by decide +kernel, by decide +kernel⟩, List.mem_of_getElem? (i := 143) (by decide +kernel), List.mem_of_getElem? (i := 442) (by decide +kernel), List.mem_of_getElem? (i := 443) (by decide +kernel)⟩
theorem lw_p10 : lw_okq (⟨"PondRings$Timetable", "canThrow", "(II)Z"⟩, 8) := ⟨⟨by decide +kernel, by decide +kernel⟩, List.mem_of_getElem? (i := 143) (by decide +kernel), List.mem_of_getElem? (i := 451) (by decide +kernel), List.mem_of_getElem? (i := 452) (by decide +kernel)⟩
theorem lw_p11 : lw_okq (⟨"PondRings$Timetable", "weightIn", "(II)I"⟩, 8) := ⟨⟨by decide +kernel, by decide +kernel⟩, List.mem_of_getElem? (i := 143) (by decide +kernel), List.mem_of_getElem? (i := 458) (by decide +kernel), List.mem_of_getElem? (i := 459) (by decide +kernel)⟩
theorem lw_p12 : lw_okq (⟨"PondRings$Timetable", "canPlace", "(II)Z"⟩, 8) := ⟨⟨by decide +kernel, by decide +kernel⟩, List.mem_of_getElem? (i := 143) (by decide +kernel), List.mem_of_getElem? (i := 463) (by decide +kernel), List.mem_of_getElem? (i := 464) (by decide +kernel)⟩
theorem lw_p13 : lw_okq (⟨"PondRings$Timetable", "tightest", "(II)I"⟩, 8) := ⟨⟨by decide +kernel, by decide +kernel⟩, List.mem_of_getElem? (i := 143) (by decide +kernel), List.mem_of_getElem? (i := 467) (by decide +kernel), List.mem_of_getElem? (i := 468) (by decide +kernel)⟩
theorem lw_p14 : lw_okq (⟨"PondRings$Timetable", "leavesRoom", "(IIII)Z"⟩, 8) := ⟨⟨by decide +kernel, by decide +kernel⟩, List.mem_of_getElem? (i := 143) (by decide +kernel), List.mem_of_getElem? (i := 471) (by decide +kernel), List.mem_of_getElem? (i := 472) (by decide +kernel)⟩
theorem lw_p15 : lw_okq (⟨"PondRings$Timetable", "firstThatWillDo", "(II)I"⟩, 8) := ⟨⟨by decide +kernel, by decide +kernel⟩, List.mem_of_getElem? (i := 143) (by decide +kernel), List.mem_of_getElem? (i := 475) (by decide +kernel), List.mem_of_getElem? (i := 476) (by decide +kernel)⟩
def lw_privs_1 : List (MethodName × Nat) := [(⟨"PondRings", "faulty", "(I)I"⟩, 11), (⟨"PondRings$PondText", "goesOn", "(II)Z"⟩, 3), (⟨"PondRings$PondText", "end", "()I"⟩, 3), (⟨"PondRings$PondText", "goesOnInRows", "(II)Z"⟩, 3), (⟨"PondRings$Pond", "spread", "(I)V"⟩, 8), (⟨"PondRings$Timetable", "learnPair", "(IILPondRings$Pond;LPondRings$Listing;LPondRings$Meeting;)V"⟩, 8), (⟨"PondRings", "mostTogether", "()I"⟩, 11), (⟨"PondRings", "findClashes", "()V"⟩, 11), (⟨"PondRings", "isPeaceful", "(I)Z"⟩, 11), (⟨"PondRings$Timetable", "widestPair", "(I)I"⟩, 8), (⟨"PondRings$Timetable", "canThrow", "(II)Z"⟩, 8), (⟨"PondRings$Timetable", "weightIn", "(II)I"⟩, 8), (⟨"PondRings$Timetable", "canPlace", "(II)Z"⟩, 8), (⟨"PondRings$Timetable", "tightest", "(II)I"⟩, 8), (⟨"PondRings$Timetable", "leavesRoom", "(IIII)Z"⟩, 8), (⟨"PondRings$Timetable", "firstThatWillDo", "(II)I"⟩, 8)]
theorem lw_r1 : ∀ q ∈ lw_privs_1, lw_okq q := List.forall_mem_cons.mpr ⟨lw_p0, List.forall_mem_cons.mpr ⟨lw_p1, List.forall_mem_cons.mpr ⟨lw_p2, List.forall_mem_cons.mpr ⟨lw_p3, List.forall_mem_cons.mpr ⟨lw_p4, List.forall_mem_cons.mpr ⟨lw_p5, List.forall_mem_cons.mpr ⟨lw_p6, List.forall_mem_cons.mpr ⟨lw_p7, List.forall_mem_cons.mpr ⟨lw_p8, List.forall_mem_cons.mpr ⟨lw_p9, List.forall_mem_cons.mpr ⟨lw_p10, List.forall_mem_cons.mpr ⟨lw_p11, List.forall_mem_cons.mpr ⟨lw_p12, List.forall_mem_cons.mpr ⟨lw_p13, List.forall_mem_cons.mpr ⟨lw_p14, List.forall_mem_cons.mpr ⟨lw_p15, fun _ h => absurd h List.not_mem_nil⟩⟩⟩⟩⟩⟩⟩⟩⟩⟩⟩⟩⟩⟩⟩⟩
theorem lw_p16 : lw_okq (⟨"PondRings$Timetable", "meetsOneAhead", "(II)Z"⟩, 8) := ⟨⟨by decide +kernel, by decide +kernel⟩, List.mem_of_getElem? (i := 143) (by decide +kernel), List.mem_of_getElem? (i := 487) (by decide +kernel), List.mem_of_getElem? (i := 488) (by decide +kernel)⟩
theorem lw_p17 : lw_okq (⟨"PondRings", "fitsInCell", "(II)I"⟩, 11) := ⟨⟨by decide +kernel, by decide +kernel⟩, List.mem_of_getElem? (i := 15) (by decide +kernel), List.mem_of_getElem? (i := 515) (by decide +kernel), List.mem_of_getElem? (i := 516) (by decide +kernel)⟩
theorem lw_p18 : lw_okq (⟨"PondRings", "firstFit", "(I)I"⟩, 11) := ⟨⟨by decide +kernel, by decide +kernel⟩, List.mem_of_getElem? (i := 15) (by decide +kernel), List.mem_of_getElem? (i := 519) (by decide +kernel), List.mem_of_getElem? (i := 520) (by decide +kernel)⟩
theorem lw_p19 : lw_okq (⟨"PondRings", "mostTogetherIfDug", "(I)I"⟩, 11) := ⟨⟨by decide +kernel, by decide +kernel⟩, List.mem_of_getElem? (i := 15) (by decide +kernel), List.mem_of_getElem? (i := 528) (by decide +kernel), List.mem_of_getElem? (i := 529) (by decide +kernel)⟩
theorem lw_p20 : lw_okq (⟨"PondRings", "grainTells", "(I)I"⟩, 11) := ⟨⟨by decide +kernel, by decide +kernel⟩, List.mem_of_getElem? (i := 15) (by decide +kernel), List.mem_of_getElem? (i := 569) (by decide +kernel), List.mem_of_getElem? (i := 570) (by decide +kernel)⟩
theorem lw_p21 : lw_okq (⟨"PondRings", "leave", "(I)V"⟩, 11) := ⟨⟨by decide +kernel, by decide +kernel⟩, List.mem_of_getElem? (i := 15) (by decide +kernel), List.mem_of_getElem? (i := 573) (by decide +kernel), List.mem_of_getElem? (i := 574) (by decide +kernel)⟩
theorem lw_p22 : lw_okq (⟨"PondRings", "pebbleTells", "(I)I"⟩, 11) := ⟨⟨by decide +kernel, by decide +kernel⟩, List.mem_of_getElem? (i := 15) (by decide +kernel), List.mem_of_getElem? (i := 577) (by decide +kernel), List.mem_of_getElem? (i := 578) (by decide +kernel)⟩
theorem lw_p23 : lw_okq (⟨"PondRings", "stoneTells", "(I)I"⟩, 11) := ⟨⟨by decide +kernel, by decide +kernel⟩, List.mem_of_getElem? (i := 15) (by decide +kernel), List.mem_of_getElem? (i := 581) (by decide +kernel), List.mem_of_getElem? (i := 582) (by decide +kernel)⟩
theorem lw_p24 : lw_okq (⟨"PondRings", "grainMakes", "()I"⟩, 11) := ⟨⟨by decide +kernel, by decide +kernel⟩, List.mem_of_getElem? (i := 15) (by decide +kernel), List.mem_of_getElem? (i := 589) (by decide +kernel), List.mem_of_getElem? (i := 590) (by decide +kernel)⟩
theorem lw_p25 : lw_okq (⟨"PondRings", "lentMakes", "(I)I"⟩, 11) := ⟨⟨by decide +kernel, by decide +kernel⟩, List.mem_of_getElem? (i := 15) (by decide +kernel), List.mem_of_getElem? (i := 593) (by decide +kernel), List.mem_of_getElem? (i := 594) (by decide +kernel)⟩
theorem lw_p26 : lw_okq (⟨"PondRingsModel", "against", "(IIII)I"⟩, 28) := ⟨⟨by decide +kernel, by decide +kernel⟩, List.mem_of_getElem? (i := 613) (by decide +kernel), List.mem_of_getElem? (i := 718) (by decide +kernel), List.mem_of_getElem? (i := 719) (by decide +kernel)⟩
theorem lw_p27 : lw_okq (⟨"PondRingsModel", "fails", "(I)I"⟩, 28) := ⟨⟨by decide +kernel, by decide +kernel⟩, List.mem_of_getElem? (i := 613) (by decide +kernel), List.mem_of_getElem? (i := 722) (by decide +kernel), List.mem_of_getElem? (i := 723) (by decide +kernel)⟩
theorem lw_p28 : lw_okq (⟨"PondRingsModel", "readPond", "(I)Z"⟩, 28) := ⟨⟨by decide +kernel, by decide +kernel⟩, List.mem_of_getElem? (i := 613) (by decide +kernel), List.mem_of_getElem? (i := 726) (by decide +kernel), List.mem_of_getElem? (i := 727) (by decide +kernel)⟩
theorem lw_p29 : lw_okq (⟨"PondRingsModel", "digit", "(II)I"⟩, 28) := ⟨⟨by decide +kernel, by decide +kernel⟩, List.mem_of_getElem? (i := 613) (by decide +kernel), List.mem_of_getElem? (i := 730) (by decide +kernel), List.mem_of_getElem? (i := 731) (by decide +kernel)⟩
theorem lw_p30 : lw_okq (⟨"PondRingsModel", "all", "()I"⟩, 28) := ⟨⟨by decide +kernel, by decide +kernel⟩, List.mem_of_getElem? (i := 613) (by decide +kernel), List.mem_of_getElem? (i := 734) (by decide +kernel), List.mem_of_getElem? (i := 735) (by decide +kernel)⟩
theorem lw_p31 : lw_okq (⟨"PondRingsModel", "layWays", "()V"⟩, 28) := ⟨⟨by decide +kernel, by decide +kernel⟩, List.mem_of_getElem? (i := 613) (by decide +kernel), List.mem_of_getElem? (i := 738) (by decide +kernel), List.mem_of_getElem? (i := 739) (by decide +kernel)⟩
def lw_privs_2 : List (MethodName × Nat) := [(⟨"PondRings$Timetable", "meetsOneAhead", "(II)Z"⟩, 8), (⟨"PondRings", "fitsInCell", "(II)I"⟩, 11), (⟨"PondRings", "firstFit", "(I)I"⟩, 11), (⟨"PondRings", "mostTogetherIfDug", "(I)I"⟩, 11), (⟨"PondRings", "grainTells", "(I)I"⟩, 11), (⟨"PondRings", "leave", "(I)V"⟩, 11), (⟨"PondRings", "pebbleTells", "(I)I"⟩, 11), (⟨"PondRings", "stoneTells", "(I)I"⟩, 11), (⟨"PondRings", "grainMakes", "()I"⟩, 11), (⟨"PondRings", "lentMakes", "(I)I"⟩, 11), (⟨"PondRingsModel", "against", "(IIII)I"⟩, 28), (⟨"PondRingsModel", "fails", "(I)I"⟩, 28), (⟨"PondRingsModel", "readPond", "(I)Z"⟩, 28), (⟨"PondRingsModel", "digit", "(II)I"⟩, 28), (⟨"PondRingsModel", "all", "()I"⟩, 28), (⟨"PondRingsModel", "layWays", "()V"⟩, 28)]
theorem lw_r2 : ∀ q ∈ lw_privs_2, lw_okq q := List.forall_mem_cons.mpr ⟨lw_p16, List.forall_mem_cons.mpr ⟨lw_p17, List.forall_mem_cons.mpr ⟨lw_p18, List.forall_mem_cons.mpr ⟨lw_p19, List.forall_mem_cons.mpr ⟨lw_p20, List.forall_mem_cons.mpr ⟨lw_p21, List.forall_mem_cons.mpr ⟨lw_p22, List.forall_mem_cons.mpr ⟨lw_p23, List.forall_mem_cons.mpr ⟨lw_p24, List.forall_mem_cons.mpr ⟨lw_p25, List.forall_mem_cons.mpr ⟨lw_p26, List.forall_mem_cons.mpr ⟨lw_p27, List.forall_mem_cons.mpr ⟨lw_p28, List.forall_mem_cons.mpr ⟨lw_p29, List.forall_mem_cons.mpr ⟨lw_p30, List.forall_mem_cons.mpr ⟨lw_p31, fun _ h => absurd h List.not_mem_nil⟩⟩⟩⟩⟩⟩⟩⟩⟩⟩⟩⟩⟩⟩⟩⟩
theorem lw_p32 : lw_okq (⟨"PondRingsModel", "goOn", "(II)V"⟩, 28) := ⟨⟨by decide +kernel, by decide +kernel⟩, List.mem_of_getElem? (i := 613) (by decide +kernel), List.mem_of_getElem? (i := 742) (by decide +kernel), List.mem_of_getElem? (i := 743) (by decide +kernel)⟩
theorem lw_p33 : lw_okq (⟨"PondRingsModel", "way", "(II)I"⟩, 28) := ⟨⟨by decide +kernel, by decide +kernel⟩, List.mem_of_getElem? (i := 613) (by decide +kernel), List.mem_of_getElem? (i := 746) (by decide +kernel), List.mem_of_getElem? (i := 747) (by decide +kernel)⟩
theorem lw_p34 : lw_okq (⟨"PondRingsModel", "beside", "(II)I"⟩, 28) := ⟨⟨by decide +kernel, by decide +kernel⟩, List.mem_of_getElem? (i := 613) (by decide +kernel), List.mem_of_getElem? (i := 750) (by decide +kernel), List.mem_of_getElem? (i := 751) (by decide +kernel)⟩
theorem lw_p35 : lw_okq (⟨"PondRingsModel", "isCell", "(I)Z"⟩, 28) := ⟨⟨by decide +kernel, by decide +kernel⟩, List.mem_of_getElem? (i := 613) (by decide +kernel), List.mem_of_getElem? (i := 758) (by decide +kernel), List.mem_of_getElem? (i := 759) (by decide +kernel)⟩
theorem lw_p36 : lw_okq (⟨"PondRingsModel", "isStone", "(I)Z"⟩, 28) := ⟨⟨by decide +kernel, by decide +kernel⟩, List.mem_of_getElem? (i := 613) (by decide +kernel), List.mem_of_getElem? (i := 774) (by decide +kernel), List.mem_of_getElem? (i := 775) (by decide +kernel)⟩
theorem lw_p37 : lw_okq (⟨"PondRingsModel", "overAt", "(I)I"⟩, 28) := ⟨⟨by decide +kernel, by decide +kernel⟩, List.mem_of_getElem? (i := 613) (by decide +kernel), List.mem_of_getElem? (i := 778) (by decide +kernel), List.mem_of_getElem? (i := 779) (by decide +kernel)⟩
theorem lw_p38 : lw_okq (⟨"PondRingsModel", "comes", "(IIII)Z"⟩, 28) := ⟨⟨by decide +kernel, by decide +kernel⟩, List.mem_of_getElem? (i := 613) (by decide +kernel), List.mem_of_getElem? (i := 794) (by decide +kernel), List.mem_of_getElem? (i := 795) (by decide +kernel)⟩
theorem lw_p39 : lw_okq (⟨"PondRingsModel", "findMeet", "(II)V"⟩, 28) := ⟨⟨by decide +kernel, by decide +kernel⟩, List.mem_of_getElem? (i := 613) (by decide +kernel), List.mem_of_getElem? (i := 802) (by decide +kernel), List.mem_of_getElem? (i := 803) (by decide +kernel)⟩
theorem lw_p40 : lw_okq (⟨"PondRingsModel", "isThere", "(III)Z"⟩, 28) := ⟨⟨by decide +kernel, by decide +kernel⟩, List.mem_of_getElem? (i := 613) (by decide +kernel), List.mem_of_getElem? (i := 806) (by decide +kernel), List.mem_of_getElem? (i := 807) (by decide +kernel)⟩
theorem lw_p41 : lw_okq (⟨"PondRingsModel", "offer", "(IIZ)V"⟩, 28) := ⟨⟨by decide +kernel, by decide +kernel⟩, List.mem_of_getElem? (i := 613) (by decide +kernel), List.mem_of_getElem? (i := 810) (by decide +kernel), List.mem_of_getElem? (i := 811) (by decide +kernel)⟩
theorem lw_p42 : lw_okq (⟨"PondRingsModel", "isWish", "(I)Z"⟩, 28) := ⟨⟨by decide +kernel, by decide +kernel⟩, List.mem_of_getElem? (i := 613) (by decide +kernel), List.mem_of_getElem? (i := 826) (by decide +kernel), List.mem_of_getElem? (i := 827) (by decide +kernel)⟩
theorem lw_p43 : lw_okq (⟨"PondRingsModel", "layMeets", "()V"⟩, 28) := ⟨⟨by decide +kernel, by decide +kernel⟩, List.mem_of_getElem? (i := 613) (by decide +kernel), List.mem_of_getElem? (i := 838) (by decide +kernel), List.mem_of_getElem? (i := 839) (by decide +kernel)⟩
theorem lw_p44 : lw_okq (⟨"PondRingsModel", "layMeetsAt", "(III)V"⟩, 28) := ⟨⟨by decide +kernel, by decide +kernel⟩, List.mem_of_getElem? (i := 613) (by decide +kernel), List.mem_of_getElem? (i := 842) (by decide +kernel), List.mem_of_getElem? (i := 843) (by decide +kernel)⟩
theorem lw_p45 : lw_okq (⟨"PondRingsModel", "isWithin", "(II)Z"⟩, 28) := ⟨⟨by decide +kernel, by decide +kernel⟩, List.mem_of_getElem? (i := 613) (by decide +kernel), List.mem_of_getElem? (i := 846) (by decide +kernel), List.mem_of_getElem? (i := 847) (by decide +kernel)⟩
theorem lw_p46 : lw_okq (⟨"PondRingsModel", "meetBy", "(III)Z"⟩, 28) := ⟨⟨by decide +kernel, by decide +kernel⟩, List.mem_of_getElem? (i := 613) (by decide +kernel), List.mem_of_getElem? (i := 850) (by decide +kernel), List.mem_of_getElem? (i := 851) (by decide +kernel)⟩
theorem lw_p47 : lw_okq (⟨"PondRingsModel", "mostAtOnce", "()I"⟩, 28) := ⟨⟨by decide +kernel, by decide +kernel⟩, List.mem_of_getElem? (i := 613) (by decide +kernel), List.mem_of_getElem? (i := 858) (by decide +kernel), List.mem_of_getElem? (i := 859) (by decide +kernel)⟩
def lw_privs_3 : List (MethodName × Nat) := [(⟨"PondRingsModel", "goOn", "(II)V"⟩, 28), (⟨"PondRingsModel", "way", "(II)I"⟩, 28), (⟨"PondRingsModel", "beside", "(II)I"⟩, 28), (⟨"PondRingsModel", "isCell", "(I)Z"⟩, 28), (⟨"PondRingsModel", "isStone", "(I)Z"⟩, 28), (⟨"PondRingsModel", "overAt", "(I)I"⟩, 28), (⟨"PondRingsModel", "comes", "(IIII)Z"⟩, 28), (⟨"PondRingsModel", "findMeet", "(II)V"⟩, 28), (⟨"PondRingsModel", "isThere", "(III)Z"⟩, 28), (⟨"PondRingsModel", "offer", "(IIZ)V"⟩, 28), (⟨"PondRingsModel", "isWish", "(I)Z"⟩, 28), (⟨"PondRingsModel", "layMeets", "()V"⟩, 28), (⟨"PondRingsModel", "layMeetsAt", "(III)V"⟩, 28), (⟨"PondRingsModel", "isWithin", "(II)Z"⟩, 28), (⟨"PondRingsModel", "meetBy", "(III)Z"⟩, 28), (⟨"PondRingsModel", "mostAtOnce", "()I"⟩, 28)]
theorem lw_r3 : ∀ q ∈ lw_privs_3, lw_okq q := List.forall_mem_cons.mpr ⟨lw_p32, List.forall_mem_cons.mpr ⟨lw_p33, List.forall_mem_cons.mpr ⟨lw_p34, List.forall_mem_cons.mpr ⟨lw_p35, List.forall_mem_cons.mpr ⟨lw_p36, List.forall_mem_cons.mpr ⟨lw_p37, List.forall_mem_cons.mpr ⟨lw_p38, List.forall_mem_cons.mpr ⟨lw_p39, List.forall_mem_cons.mpr ⟨lw_p40, List.forall_mem_cons.mpr ⟨lw_p41, List.forall_mem_cons.mpr ⟨lw_p42, List.forall_mem_cons.mpr ⟨lw_p43, List.forall_mem_cons.mpr ⟨lw_p44, List.forall_mem_cons.mpr ⟨lw_p45, List.forall_mem_cons.mpr ⟨lw_p46, List.forall_mem_cons.mpr ⟨lw_p47, fun _ h => absurd h List.not_mem_nil⟩⟩⟩⟩⟩⟩⟩⟩⟩⟩⟩⟩⟩⟩⟩⟩
theorem lw_p48 : lw_okq (⟨"PondRingsModel", "mayAtOnce", "(I)Z"⟩, 28) := ⟨⟨by decide +kernel, by decide +kernel⟩, List.mem_of_getElem? (i := 613) (by decide +kernel), List.mem_of_getElem? (i := 865) (by decide +kernel), List.mem_of_getElem? (i := 866) (by decide +kernel)⟩
theorem lw_p49 : lw_okq (⟨"PondRingsModel", "find", "(II)Z"⟩, 28) := ⟨⟨by decide +kernel, by decide +kernel⟩, List.mem_of_getElem? (i := 613) (by decide +kernel), List.mem_of_getElem? (i := 873) (by decide +kernel), List.mem_of_getElem? (i := 874) (by decide +kernel)⟩
theorem lw_p50 : lw_okq (⟨"PondRingsModel", "mayBe", "(IIII)Z"⟩, 28) := ⟨⟨by decide +kernel, by decide +kernel⟩, List.mem_of_getElem? (i := 613) (by decide +kernel), List.mem_of_getElem? (i := 877) (by decide +kernel), List.mem_of_getElem? (i := 878) (by decide +kernel)⟩
theorem lw_p51 : lw_okq (⟨"PondRingsModel", "mayGoOn", "(III)Z"⟩, 28) := ⟨⟨by decide +kernel, by decide +kernel⟩, List.mem_of_getElem? (i := 613) (by decide +kernel), List.mem_of_getElem? (i := 881) (by decide +kernel), List.mem_of_getElem? (i := 882) (by decide +kernel)⟩
theorem lw_p52 : lw_okq (⟨"PondRingsModel", "doesFit", "(III)Z"⟩, 28) := ⟨⟨by decide +kernel, by decide +kernel⟩, List.mem_of_getElem? (i := 613) (by decide +kernel), List.mem_of_getElem? (i := 905) (by decide +kernel), List.mem_of_getElem? (i := 906) (by decide +kernel)⟩
theorem lw_p53 : lw_okq (⟨"PondRingsModel", "lost", "(I)J"⟩, 28) := ⟨⟨by decide +kernel, by decide +kernel⟩, List.mem_of_getElem? (i := 613) (by decide +kernel), List.mem_of_getElem? (i := 929) (by decide +kernel), List.mem_of_getElem? (i := 930) (by decide +kernel)⟩
theorem lw_p54 : lw_okq (⟨"PondRingsModel", "begins", "(I)V"⟩, 28) := ⟨⟨by decide +kernel, by decide +kernel⟩, List.mem_of_getElem? (i := 613) (by decide +kernel), List.mem_of_getElem? (i := 941) (by decide +kernel), List.mem_of_getElem? (i := 942) (by decide +kernel)⟩
def lw_privs_4 : List (MethodName × Nat) := [(⟨"PondRingsModel", "mayAtOnce", "(I)Z"⟩, 28), (⟨"PondRingsModel", "find", "(II)Z"⟩, 28), (⟨"PondRingsModel", "mayBe", "(IIII)Z"⟩, 28), (⟨"PondRingsModel", "mayGoOn", "(III)Z"⟩, 28), (⟨"PondRingsModel", "doesFit", "(III)Z"⟩, 28), (⟨"PondRingsModel", "lost", "(I)J"⟩, 28), (⟨"PondRingsModel", "begins", "(I)V"⟩, 28)]
theorem lw_r4 : ∀ q ∈ lw_privs_4, lw_okq q := List.forall_mem_cons.mpr ⟨lw_p48, List.forall_mem_cons.mpr ⟨lw_p49, List.forall_mem_cons.mpr ⟨lw_p50, List.forall_mem_cons.mpr ⟨lw_p51, List.forall_mem_cons.mpr ⟨lw_p52, List.forall_mem_cons.mpr ⟨lw_p53, List.forall_mem_cons.mpr ⟨lw_p54, fun _ h => absurd h List.not_mem_nil⟩⟩⟩⟩⟩⟩⟩
def lw_privs : List (MethodName × Nat) := lw_privs_1 ++ (lw_privs_2 ++ (lw_privs_3 ++ (lw_privs_4)))
def lw_tbl : List Cond := k2_sels lw_privs ++ tables_1
theorem lw_privs_ok : ∀ q ∈ lw_privs, lw_okq q := by
  show ∀ q ∈ lw_privs_1 ++ (lw_privs_2 ++ (lw_privs_3 ++ (lw_privs_4))), lw_okq q
  exact List.forall_mem_append.mpr ⟨lw_r1, List.forall_mem_append.mpr ⟨lw_r2, List.forall_mem_append.mpr ⟨lw_r3, lw_r4⟩⟩⟩
-- ===== end of PART A; then your names; then what follows =====
end
section
-- out of the printed names: classes, fields, methods
def RX0 : String := "PondRings$Listing"
def TX0 : u_T := fun k => match k with
  | 0 => ("PondRings$Listing", "kinds", "[I", true)
  | 1 => ("PondRings$Listing", "places", "[I", true)
  | 2 => ("PondRings$Listing", "minutes", "[I", true)
  | _ => ("PondRings$Listing", "count", "I", false)
def tyX0 : Nat → FieldType := fun k => match k with
  | 0 => .array .int
  | 1 => .array .int
  | 2 => .array .int
  | _ => .int
abbrev wsX00 : List Cond := u_ws RX0 TX0 4
theorem nmX0 : ∀ a, a < 4 → ∀ b, b < 4 → a ≠ b → (TX0 a).2.1 ≠ (TX0 b).2.1 := by decide +kernel
theorem tyX0_ok : ∀ k, k < 4 → parseFieldDescriptor (TX0 k).2.2.1 = some (tyX0 k) := by decide +kernel
abbrev cX0_init : ByteArray := prog_2_method_1_code
def yX0_init : MethodName := ⟨RX0, "<init>", "(I)V"⟩
abbrev cX0_has : ByteArray := prog_2_method_2_code
def yX0_has : MethodName := ⟨RX0, "has", "(I)Z"⟩
abbrev cX0_reach : ByteArray := prog_2_method_3_code
def yX0_reach : MethodName := ⟨RX0, "reach", "(I)I"⟩
abbrev cX0_add : ByteArray := prog_2_method_4_code
def yX0_add : MethodName := ⟨RX0, "add", "(III)I"⟩
abbrev cX0_takeBack : ByteArray := prog_2_method_5_code
def yX0_takeBack : MethodName := ⟨RX0, "takeBack", "(I)I"⟩
def RX1 : String := "PondRings$Meeting"
def TX1 : u_T := fun k => match k with
  | 0 => ("PondRings$Meeting", "minute", "I", false)
  | _ => ("PondRings$Meeting", "place", "I", false)
def tyX1 : Nat → FieldType := fun k => match k with
  | 0 => .int
  | _ => .int
abbrev wsX10 : List Cond := u_ws RX1 TX1 2
theorem nmX1 : ∀ a, a < 2 → ∀ b, b < 2 → a ≠ b → (TX1 a).2.1 ≠ (TX1 b).2.1 := by decide +kernel
theorem tyX1_ok : ∀ k, k < 2 → parseFieldDescriptor (TX1 k).2.2.1 = some (tyX1 k) := by decide +kernel
abbrev cX1_init : ByteArray := prog_3_method_1_code
def yX1_init : MethodName := ⟨RX1, "<init>", "()V"⟩
abbrev cX1_ofStones : ByteArray := prog_3_method_2_code
def yX1_ofStones : MethodName := ⟨RX1, "ofStones", "(LPondRings$Pond;LPondRings$Listing;II)Z"⟩
abbrev cX1_ofTwo : ByteArray := prog_3_method_3_code
def yX1_ofTwo : MethodName := ⟨RX1, "ofTwo", "(LPondRings$Pond;LPondRings$Listing;III)Z"⟩
def RX2 : String := "PondRings$Pond"
def TX2 : u_T := fun k => match k with
  | 0 => ("PondRings$Pond", "ripples", "[J", true)
  | 1 => ("PondRings$Pond", "depths", "[I", true)
  | 2 => ("PondRings$Pond", "ready", "J", false)
  | 3 => ("PondRings$Pond", "firstColumn", "J", false)
  | 4 => ("PondRings$Pond", "lastColumn", "J", false)
  | 5 => ("PondRings$Pond", "cells", "I", false)
  | 6 => ("PondRings$Pond", "wide", "I", false)
  | _ => ("PondRings$Pond", "water", "J", false)
def tyX2 : Nat → FieldType := fun k => match k with
  | 0 => .array .long
  | 1 => .array .int
  | 2 => .long
  | 3 => .long
  | 4 => .long
  | 5 => .int
  | 6 => .int
  | _ => .long
abbrev wsX20 : List Cond := u_ws RX2 TX2 8
theorem nmX2 : ∀ a, a < 8 → ∀ b, b < 8 → a ≠ b → (TX2 a).2.1 ≠ (TX2 b).2.1 := by decide +kernel
theorem tyX2_ok : ∀ k, k < 8 → parseFieldDescriptor (TX2 k).2.2.1 = some (tyX2 k) := by decide +kernel
abbrev cX2_init : ByteArray := prog_4_method_1_code
def yX2_init : MethodName := ⟨RX2, "<init>", "()V"⟩
abbrev cX2_begin : ByteArray := prog_4_method_2_code
def yX2_begin : MethodName := ⟨RX2, "begin", "(IIJ)V"⟩
abbrev cX2_turnTo : ByteArray := prog_4_method_3_code
def yX2_turnTo : MethodName := ⟨RX2, "turnTo", "(J)V"⟩
abbrev cX2_has : ByteArray := prog_4_method_4_code
def yX2_has : MethodName := ⟨RX2, "has", "(I)Z"⟩
abbrev cX2_isWater : ByteArray := prog_4_method_5_code
def yX2_isWater : MethodName := ⟨RX2, "isWater", "(I)Z"⟩
abbrev cX2_steps : ByteArray := prog_4_method_6_code
def yX2_steps : MethodName := ⟨RX2, "steps", "(II)I"⟩
abbrev cX2_lasts : ByteArray := prog_4_method_7_code
def yX2_lasts : MethodName := ⟨RX2, "lasts", "(II)I"⟩
abbrev cX2_ringAt : ByteArray := prog_4_method_8_code
def yX2_ringAt : MethodName := ⟨RX2, "ringAt", "(III)J"⟩
abbrev cX2_spread : ByteArray := prog_4_method_9_code
def yX2_spread : MethodName := ⟨RX2, "spread", "(I)V"⟩
abbrev cX2_lesserBeside : ByteArray := prog_4_method_10_code
def yX2_lesserBeside : MethodName := ⟨RX2, "lesserBeside", "(JJ)J"⟩
def RX3 : String := "PondRings$PondText"
def TX3 : u_T := fun k => match k with
  | 0 => ("PondRings$PondText", "high", "I", false)
  | 1 => ("PondRings$PondText", "wide", "I", false)
  | _ => ("PondRings$PondText", "water", "J", false)
def tyX3 : Nat → FieldType := fun k => match k with
  | 0 => .int
  | 1 => .int
  | _ => .long
abbrev wsX30 : List Cond := u_ws RX3 TX3 3
theorem nmX3 : ∀ a, a < 3 → ∀ b, b < 3 → a ≠ b → (TX3 a).2.1 ≠ (TX3 b).2.1 := by decide +kernel
theorem tyX3_ok : ∀ k, k < 3 → parseFieldDescriptor (TX3 k).2.2.1 = some (tyX3 k) := by decide +kernel
abbrev cX3_init : ByteArray := prog_5_method_1_code
def yX3_init : MethodName := ⟨RX3, "<init>", "()V"⟩
abbrev cX3_read : ByteArray := prog_5_method_2_code
def yX3_read : MethodName := ⟨RX3, "read", "(LPondRings$Sheet;II)I"⟩
abbrev cX3_end : ByteArray := prog_5_method_3_code
def yX3_end : MethodName := ⟨RX3, "end", "()I"⟩
abbrev cX3_goesOn : ByteArray := prog_5_method_4_code
def yX3_goesOn : MethodName := ⟨RX3, "goesOn", "(II)Z"⟩
abbrev cX3_goesOnInRows : ByteArray := prog_5_method_5_code
def yX3_goesOnInRows : MethodName := ⟨RX3, "goesOnInRows", "(II)Z"⟩
def RX4 : String := "PondRings$Sheet"
def TX4 : u_T := fun k => match k with
  | 0 => ("PondRings$Sheet", "numbers", "[I", true)
  | 1 => ("PondRings$Sheet", "there", "Z", false)
  | 2 => ("PondRings$Sheet", "sort", "I", false)
  | _ => ("PondRings$Sheet", "length", "I", false)
def tyX4 : Nat → FieldType := fun k => match k with
  | 0 => .array .int
  | 1 => .boolean
  | 2 => .int
  | _ => .int
abbrev wsX40 : List Cond := u_ws RX4 TX4 4
theorem nmX4 : ∀ a, a < 4 → ∀ b, b < 4 → a ≠ b → (TX4 a).2.1 ≠ (TX4 b).2.1 := by decide +kernel
theorem tyX4_ok : ∀ k, k < 4 → parseFieldDescriptor (TX4 k).2.2.1 = some (tyX4 k) := by decide +kernel
abbrev cX4_init : ByteArray := prog_6_method_1_code
def yX4_init : MethodName := ⟨RX4, "<init>", "()V"⟩
abbrev cX4_renew : ByteArray := prog_6_method_2_code
def yX4_renew : MethodName := ⟨RX4, "renew", "(II)V"⟩
abbrev cX4_isOfAnother : ByteArray := prog_6_method_3_code
def yX4_isOfAnother : MethodName := ⟨RX4, "isOfAnother", "(I)Z"⟩
abbrev cX4_hasCells : ByteArray := prog_6_method_4_code
def yX4_hasCells : MethodName := ⟨RX4, "hasCells", "(II)Z"⟩
abbrev cX4_take : ByteArray := prog_6_method_5_code
def yX4_take : MethodName := ⟨RX4, "take", "(II)V"⟩
def RX5 : String := "PondRings$Timetable"
def TX5 : u_T := fun k => match k with
  | 0 => ("PondRings$Timetable", "after", "[J", true)
  | 1 => ("PondRings$Timetable", "before", "[J", true)
  | 2 => ("PondRings$Timetable", "left", "[J", true)
  | 3 => ("PondRings$Timetable", "weights", "[I", true)
  | 4 => ("PondRings$Timetable", "planned", "Z", false)
  | 5 => ("PondRings$Timetable", "minutes", "[I", true)
  | 6 => ("PondRings$Timetable", "plan", "[I", true)
  | _ => ("PondRings$Timetable", "lastOfPlan", "I", false)
def tyX5 : Nat → FieldType := fun k => match k with
  | 0 => .array .long
  | 1 => .array .long
  | 2 => .array .long
  | 3 => .array .int
  | 4 => .boolean
  | 5 => .array .int
  | 6 => .array .int
  | _ => .int
abbrev wsX50 : List Cond := u_ws RX5 TX5 8
theorem nmX5 : ∀ a, a < 8 → ∀ b, b < 8 → a ≠ b → (TX5 a).2.1 ≠ (TX5 b).2.1 := by decide +kernel
theorem tyX5_ok : ∀ k, k < 8 → parseFieldDescriptor (TX5 k).2.2.1 = some (tyX5 k) := by decide +kernel
abbrev cX5_init : ByteArray := prog_7_method_1_code
def yX5_init : MethodName := ⟨RX5, "<init>", "()V"⟩
abbrev cX5_forgetPlan : ByteArray := prog_7_method_2_code
def yX5_forgetPlan : MethodName := ⟨RX5, "forgetPlan", "()V"⟩
abbrev cX5_learn : ByteArray := prog_7_method_3_code
def yX5_learn : MethodName := ⟨RX5, "learn", "(ILPondRings$Pond;LPondRings$Listing;LPondRings$Meeting;)V"⟩
abbrev cX5_learnPair : ByteArray := prog_7_method_4_code
def yX5_learnPair : MethodName := ⟨RX5, "learnPair", "(IILPondRings$Pond;LPondRings$Listing;LPondRings$Meeting;)V"⟩
abbrev cX5_leastGap : ByteArray := prog_7_method_5_code
def yX5_leastGap : MethodName := ⟨RX5, "leastGap", "(II)I"⟩
abbrev cX5_throwInTurn : ByteArray := prog_7_method_6_code
def yX5_throwInTurn : MethodName := ⟨RX5, "throwInTurn", "(I)I"⟩
abbrev cX5_meetsOneAhead : ByteArray := prog_7_method_7_code
def yX5_meetsOneAhead : MethodName := ⟨RX5, "meetsOneAhead", "(II)Z"⟩
abbrev cX5_makePlan : ByteArray := prog_7_method_8_code
def yX5_makePlan : MethodName := ⟨RX5, "makePlan", "(I)V"⟩
abbrev cX5_firstThatWillDo : ByteArray := prog_7_method_9_code
def yX5_firstThatWillDo : MethodName := ⟨RX5, "firstThatWillDo", "(II)I"⟩
abbrev cX5_widestPair : ByteArray := prog_7_method_10_code
def yX5_widestPair : MethodName := ⟨RX5, "widestPair", "(I)I"⟩
abbrev cX5_mostBy : ByteArray := prog_7_method_11_code
def yX5_mostBy : MethodName := ⟨RX5, "mostBy", "(II)I"⟩
abbrev cX5_canThrow : ByteArray := prog_7_method_12_code
def yX5_canThrow : MethodName := ⟨RX5, "canThrow", "(II)Z"⟩
abbrev cX5_weightIn : ByteArray := prog_7_method_13_code
def yX5_weightIn : MethodName := ⟨RX5, "weightIn", "(II)I"⟩
abbrev cX5_canPlace : ByteArray := prog_7_method_14_code
def yX5_canPlace : MethodName := ⟨RX5, "canPlace", "(II)Z"⟩
abbrev cX5_tightest : ByteArray := prog_7_method_15_code
def yX5_tightest : MethodName := ⟨RX5, "tightest", "(II)I"⟩
abbrev cX5_leavesRoom : ByteArray := prog_7_method_16_code
def yX5_leavesRoom : MethodName := ⟨RX5, "leavesRoom", "(IIII)Z"⟩
def RX6 : String := "PondRings"
def TX6 : u_T := fun k => match k with
  | 0 => ("PondRings", "sheets", "[LPondRings$Sheet;", true)
  | 1 => ("PondRings", "text", "LPondRings$PondText;", true)
  | 2 => ("PondRings", "lake", "LPondRings$Pond;", true)
  | 3 => ("PondRings", "stones", "LPondRings$Listing;", true)
  | 4 => ("PondRings", "wishes", "LPondRings$Listing;", true)
  | 5 => ("PondRings", "reeds", "LPondRings$Listing;", true)
  | 6 => ("PondRings", "meeting", "LPondRings$Meeting;", true)
  | 7 => ("PondRings", "timetable", "LPondRings$Timetable;", true)
  | 8 => ("PondRings", "clashes", "[I", true)
  | 9 => ("PondRings", "traced", "I", false)
  | _ => ("PondRings", "latestFault", "I", false)
def tyX6 : Nat → FieldType := fun k => match k with
  | 0 => .array (.object "PondRings$Sheet")
  | 1 => .object "PondRings$PondText"
  | 2 => .object "PondRings$Pond"
  | 3 => .object "PondRings$Listing"
  | 4 => .object "PondRings$Listing"
  | 5 => .object "PondRings$Listing"
  | 6 => .object "PondRings$Meeting"
  | 7 => .object "PondRings$Timetable"
  | 8 => .array .int
  | 9 => .int
  | _ => .int
abbrev wsX60 : List Cond := u_ws RX6 TX6 11
theorem nmX6 : ∀ a, a < 11 → ∀ b, b < 11 → a ≠ b → (TX6 a).2.1 ≠ (TX6 b).2.1 := by decide +kernel
theorem tyX6_ok : ∀ k, k < 11 → parseFieldDescriptor (TX6 k).2.2.1 = some (tyX6 k) := by decide +kernel
abbrev cX6_init : ByteArray := prog_1_method_1_code
def yX6_init : MethodName := ⟨RX6, "<init>", "()V"⟩
abbrev cX6_pond : ByteArray := prog_1_method_2_code
def yX6_pond : MethodName := ⟨RX6, "pond", "(IIII)I"⟩
abbrev cX6_water : ByteArray := prog_1_method_3_code
def yX6_water : MethodName := ⟨RX6, "water", "(I)I"⟩
abbrev cX6_far : ByteArray := prog_1_method_4_code
def yX6_far : MethodName := ⟨RX6, "far", "(II)I"⟩
abbrev cX6_stone : ByteArray := prog_1_method_5_code
def yX6_stone : MethodName := ⟨RX6, "stone", "(III)I"⟩
abbrev cX6_ofStone : ByteArray := prog_1_method_6_code
def yX6_ofStone : MethodName := ⟨RX6, "ofStone", "(II)I"⟩
abbrev cX6_back : ByteArray := prog_1_method_7_code
def yX6_back : MethodName := ⟨RX6, "back", "(I)I"⟩
abbrev cX6_ring : ByteArray := prog_1_method_8_code
def yX6_ring : MethodName := ⟨RX6, "ring", "(II)J"⟩
abbrev cX6_meet : ByteArray := prog_1_method_9_code
def yX6_meet : MethodName := ⟨RX6, "meet", "(III)I"⟩
abbrev cX6_first : ByteArray := prog_1_method_10_code
def yX6_first : MethodName := ⟨RX6, "first", "(I)I"⟩
abbrev cX6_wish : ByteArray := prog_1_method_11_code
def yX6_wish : MethodName := ⟨RX6, "wish", "(II)I"⟩
abbrev cX6_ofWish : ByteArray := prog_1_method_12_code
def yX6_ofWish : MethodName := ⟨RX6, "ofWish", "(II)I"⟩
abbrev cX6_drop : ByteArray := prog_1_method_13_code
def yX6_drop : MethodName := ⟨RX6, "drop", "(I)I"⟩
abbrev cX6_apart : ByteArray := prog_1_method_14_code
def yX6_apart : MethodName := ⟨RX6, "apart", "(II)I"⟩
abbrev cX6_atOnce : ByteArray := prog_1_method_15_code
def yX6_atOnce : MethodName := ⟨RX6, "atOnce", "()I"⟩
abbrev cX6_soonest : ByteArray := prog_1_method_16_code
def yX6_soonest : MethodName := ⟨RX6, "soonest", "(I)I"⟩
abbrev cX6_alone : ByteArray := prog_1_method_17_code
def yX6_alone : MethodName := ⟨RX6, "alone", "(I)I"⟩
abbrev cX6_sunset : ByteArray := prog_1_method_18_code
def yX6_sunset : MethodName := ⟨RX6, "sunset", "(I)I"⟩
abbrev cX6_reed : ByteArray := prog_1_method_19_code
def yX6_reed : MethodName := ⟨RX6, "reed", "(II)I"⟩
abbrev cX6_pull : ByteArray := prog_1_method_20_code
def yX6_pull : MethodName := ⟨RX6, "pull", "(I)I"⟩
abbrev cX6_fits : ByteArray := prog_1_method_21_code
def yX6_fits : MethodName := ⟨RX6, "fits", "(II)I"⟩
abbrev cX6_dig : ByteArray := prog_1_method_22_code
def yX6_dig : MethodName := ⟨RX6, "dig", "(I)I"⟩
abbrev cX6_sheet : ByteArray := prog_1_method_23_code
def yX6_sheet : MethodName := ⟨RX6, "sheet", "(III)I"⟩
abbrev cX6_lose : ByteArray := prog_1_method_24_code
def yX6_lose : MethodName := ⟨RX6, "lose", "(I)I"⟩
abbrev cX6_put : ByteArray := prog_1_method_25_code
def yX6_put : MethodName := ⟨RX6, "put", "(III)I"⟩
abbrev cX6_cell : ByteArray := prog_1_method_26_code
def yX6_cell : MethodName := ⟨RX6, "cell", "(III)J"⟩
abbrev cX6_copy : ByteArray := prog_1_method_27_code
def yX6_copy : MethodName := ⟨RX6, "copy", "(IIIII)I"⟩
abbrev cX6_tell : ByteArray := prog_1_method_28_code
def yX6_tell : MethodName := ⟨RX6, "tell", "(I)I"⟩
abbrev cX6_make : ByteArray := prog_1_method_29_code
def yX6_make : MethodName := ⟨RX6, "make", "(I)I"⟩
abbrev cX6_as : ByteArray := prog_1_method_30_code
def yX6_as : MethodName := ⟨RX6, "as", "(II)I"⟩
abbrev cX6_trace : ByteArray := prog_1_method_31_code
def yX6_trace : MethodName := ⟨RX6, "trace", "()I"⟩
abbrev cX6_fault : ByteArray := prog_1_method_32_code
def yX6_fault : MethodName := ⟨RX6, "fault", "()I"⟩
abbrev cX6_many : ByteArray := prog_1_method_33_code
def yX6_many : MethodName := ⟨RX6, "many", "(I)I"⟩
abbrev cX6_faulty : ByteArray := prog_1_method_34_code
def yX6_faulty : MethodName := ⟨RX6, "faulty", "(I)I"⟩
abbrev cX6_isSheet : ByteArray := prog_1_method_35_code
def yX6_isSheet : MethodName := ⟨RX6, "isSheet", "(I)Z"⟩
abbrev cX6_isSort : ByteArray := prog_1_method_36_code
def yX6_isSort : MethodName := ⟨RX6, "isSort", "(I)Z"⟩
abbrev cX6_isKind : ByteArray := prog_1_method_37_code
def yX6_isKind : MethodName := ⟨RX6, "isKind", "(I)Z"⟩
abbrev cX6_isMinute : ByteArray := prog_1_method_38_code
def yX6_isMinute : MethodName := ⟨RX6, "isMinute", "(I)Z"⟩
abbrev cX6_lowestBit : ByteArray := prog_1_method_39_code
def yX6_lowestBit : MethodName := ⟨RX6, "lowestBit", "(J)I"⟩
abbrev cX6_fitsInCell : ByteArray := prog_1_method_40_code
def yX6_fitsInCell : MethodName := ⟨RX6, "fitsInCell", "(II)I"⟩
abbrev cX6_firstFit : ByteArray := prog_1_method_41_code
def yX6_firstFit : MethodName := ⟨RX6, "firstFit", "(I)I"⟩
abbrev cX6_mostTogetherIfDug : ByteArray := prog_1_method_42_code
def yX6_mostTogetherIfDug : MethodName := ⟨RX6, "mostTogetherIfDug", "(I)I"⟩
abbrev cX6_mostTogether : ByteArray := prog_1_method_43_code
def yX6_mostTogether : MethodName := ⟨RX6, "mostTogether", "()I"⟩
abbrev cX6_findClashes : ByteArray := prog_1_method_44_code
def yX6_findClashes : MethodName := ⟨RX6, "findClashes", "()V"⟩
abbrev cX6_isPeaceful : ByteArray := prog_1_method_45_code
def yX6_isPeaceful : MethodName := ⟨RX6, "isPeaceful", "(I)Z"⟩
abbrev cX6_leave : ByteArray := prog_1_method_46_code
def yX6_leave : MethodName := ⟨RX6, "leave", "(I)V"⟩
abbrev cX6_stoneTells : ByteArray := prog_1_method_47_code
def yX6_stoneTells : MethodName := ⟨RX6, "stoneTells", "(I)I"⟩
abbrev cX6_pebbleTells : ByteArray := prog_1_method_48_code
def yX6_pebbleTells : MethodName := ⟨RX6, "pebbleTells", "(I)I"⟩
abbrev cX6_grainTells : ByteArray := prog_1_method_49_code
def yX6_grainTells : MethodName := ⟨RX6, "grainTells", "(I)I"⟩
abbrev cX6_lentMakes : ByteArray := prog_1_method_50_code
def yX6_lentMakes : MethodName := ⟨RX6, "lentMakes", "(I)I"⟩
abbrev cX6_grainMakes : ByteArray := prog_1_method_51_code
def yX6_grainMakes : MethodName := ⟨RX6, "grainMakes", "()I"⟩
def RX7 : String := "PondRingsModel"
def TX7 : u_T := fun k => match k with
  | 0 => ("PondRingsModel", "fault", "I", false)
  | 1 => ("PondRingsModel", "trace", "I", false)
  | 2 => ("PondRingsModel", "sorts", "[I", true)
  | 3 => ("PondRingsModel", "sheetLong", "[I", true)
  | 4 => ("PondRingsModel", "cells", "[I", true)
  | 5 => ("PondRingsModel", "high", "I", false)
  | 6 => ("PondRingsModel", "wide", "I", false)
  | 7 => ("PondRingsModel", "isWater", "[Z", true)
  | 8 => ("PondRingsModel", "ways", "[I", true)
  | 9 => ("PondRingsModel", "at", "I", false)
  | 10 => ("PondRingsModel", "readHigh", "I", false)
  | 11 => ("PondRingsModel", "readWide", "I", false)
  | 12 => ("PondRingsModel", "readWater", "[Z", true)
  | 13 => ("PondRingsModel", "stones", "I", false)
  | 14 => ("PondRingsModel", "stoneKind", "[I", true)
  | 15 => ("PondRingsModel", "stoneCell", "[I", true)
  | 16 => ("PondRingsModel", "stoneMinute", "[I", true)
  | 17 => ("PondRingsModel", "metMinute", "I", false)
  | 18 => ("PondRingsModel", "metCell", "I", false)
  | 19 => ("PondRingsModel", "isAtOne", "Z", false)
  | 20 => ("PondRingsModel", "wishes", "I", false)
  | 21 => ("PondRingsModel", "wishKind", "[I", true)
  | 22 => ("PondRingsModel", "wishCell", "[I", true)
  | 23 => ("PondRingsModel", "doMeet", "[Z", true)
  | 24 => ("PondRingsModel", "minutes", "[I", true)
  | 25 => ("PondRingsModel", "reeds", "I", false)
  | 26 => ("PondRingsModel", "reedCell", "[I", true)
  | _ => ("PondRingsModel", "reedMinute", "[I", true)
def tyX7 : Nat → FieldType := fun k => match k with
  | 0 => .int
  | 1 => .int
  | 2 => .array .int
  | 3 => .array .int
  | 4 => .array .int
  | 5 => .int
  | 6 => .int
  | 7 => .array .boolean
  | 8 => .array .int
  | 9 => .int
  | 10 => .int
  | 11 => .int
  | 12 => .array .boolean
  | 13 => .int
  | 14 => .array .int
  | 15 => .array .int
  | 16 => .array .int
  | 17 => .int
  | 18 => .int
  | 19 => .boolean
  | 20 => .int
  | 21 => .array .int
  | 22 => .array .int
  | 23 => .array .boolean
  | 24 => .array .int
  | 25 => .int
  | 26 => .array .int
  | _ => .array .int
abbrev wsX70 : List Cond := u_ws RX7 TX7 28
theorem nmX7 : ∀ a, a < 28 → ∀ b, b < 28 → a ≠ b → (TX7 a).2.1 ≠ (TX7 b).2.1 := by decide +kernel
theorem tyX7_ok : ∀ k, k < 28 → parseFieldDescriptor (TX7 k).2.2.1 = some (tyX7 k) := by decide +kernel
abbrev cX7_init : ByteArray := prog_9_method_1_code
def yX7_init : MethodName := ⟨RX7, "<init>", "()V"⟩
abbrev cX7_fails : ByteArray := prog_9_method_3_code
def yX7_fails : MethodName := ⟨RX7, "fails", "(I)I"⟩
abbrev cX7_lost : ByteArray := prog_9_method_4_code
def yX7_lost : MethodName := ⟨RX7, "lost", "(I)J"⟩
abbrev cX7_within : ByteArray := prog_9_method_5_code
def yX7_within : MethodName := ⟨RX7, "within", "(III)Z"⟩
abbrev cX7_isSheet : ByteArray := prog_9_method_6_code
def yX7_isSheet : MethodName := ⟨RX7, "isSheet", "(I)Z"⟩
abbrev cX7_isSort : ByteArray := prog_9_method_7_code
def yX7_isSort : MethodName := ⟨RX7, "isSort", "(I)Z"⟩
abbrev cX7_against : ByteArray := prog_9_method_8_code
def yX7_against : MethodName := ⟨RX7, "against", "(IIII)I"⟩
abbrev cX7_all : ByteArray := prog_9_method_9_code
def yX7_all : MethodName := ⟨RX7, "all", "()I"⟩
abbrev cX7_isCell : ByteArray := prog_9_method_10_code
def yX7_isCell : MethodName := ⟨RX7, "isCell", "(I)Z"⟩
abbrev cX7_digit : ByteArray := prog_9_method_11_code
def yX7_digit : MethodName := ⟨RX7, "digit", "(II)I"⟩
abbrev cX7_pond : ByteArray := prog_9_method_12_code
def yX7_pond : MethodName := ⟨RX7, "pond", "(IIII)I"⟩
abbrev cX7_readPond : ByteArray := prog_9_method_13_code
def yX7_readPond : MethodName := ⟨RX7, "readPond", "(I)Z"⟩
abbrev cX7_beside : ByteArray := prog_9_method_14_code
def yX7_beside : MethodName := ⟨RX7, "beside", "(II)I"⟩
abbrev cX7_way : ByteArray := prog_9_method_15_code
def yX7_way : MethodName := ⟨RX7, "way", "(II)I"⟩
abbrev cX7_layWays : ByteArray := prog_9_method_16_code
def yX7_layWays : MethodName := ⟨RX7, "layWays", "()V"⟩
abbrev cX7_goOn : ByteArray := prog_9_method_17_code
def yX7_goOn : MethodName := ⟨RX7, "goOn", "(II)V"⟩
abbrev cX7_water : ByteArray := prog_9_method_18_code
def yX7_water : MethodName := ⟨RX7, "water", "(I)I"⟩
abbrev cX7_far : ByteArray := prog_9_method_19_code
def yX7_far : MethodName := ⟨RX7, "far", "(II)I"⟩
abbrev cX7_reach : ByteArray := prog_9_method_20_code
def yX7_reach : MethodName := ⟨RX7, "reach", "(I)I"⟩
abbrev cX7_comes : ByteArray := prog_9_method_21_code
def yX7_comes : MethodName := ⟨RX7, "comes", "(IIII)Z"⟩
abbrev cX7_isStone : ByteArray := prog_9_method_22_code
def yX7_isStone : MethodName := ⟨RX7, "isStone", "(I)Z"⟩
abbrev cX7_stone : ByteArray := prog_9_method_23_code
def yX7_stone : MethodName := ⟨RX7, "stone", "(III)I"⟩
abbrev cX7_overAt : ByteArray := prog_9_method_24_code
def yX7_overAt : MethodName := ⟨RX7, "overAt", "(I)I"⟩
abbrev cX7_ofStone : ByteArray := prog_9_method_25_code
def yX7_ofStone : MethodName := ⟨RX7, "ofStone", "(II)I"⟩
abbrev cX7_back : ByteArray := prog_9_method_26_code
def yX7_back : MethodName := ⟨RX7, "back", "(I)I"⟩
abbrev cX7_ring : ByteArray := prog_9_method_27_code
def yX7_ring : MethodName := ⟨RX7, "ring", "(II)J"⟩
abbrev cX7_offer : ByteArray := prog_9_method_28_code
def yX7_offer : MethodName := ⟨RX7, "offer", "(IIZ)V"⟩
abbrev cX7_findMeet : ByteArray := prog_9_method_29_code
def yX7_findMeet : MethodName := ⟨RX7, "findMeet", "(II)V"⟩
abbrev cX7_isThere : ByteArray := prog_9_method_30_code
def yX7_isThere : MethodName := ⟨RX7, "isThere", "(III)Z"⟩
abbrev cX7_meet : ByteArray := prog_9_method_31_code
def yX7_meet : MethodName := ⟨RX7, "meet", "(III)I"⟩
abbrev cX7_first : ByteArray := prog_9_method_32_code
def yX7_first : MethodName := ⟨RX7, "first", "(I)I"⟩
abbrev cX7_isWish : ByteArray := prog_9_method_33_code
def yX7_isWish : MethodName := ⟨RX7, "isWish", "(I)Z"⟩
abbrev cX7_wish : ByteArray := prog_9_method_34_code
def yX7_wish : MethodName := ⟨RX7, "wish", "(II)I"⟩
abbrev cX7_ofWish : ByteArray := prog_9_method_35_code
def yX7_ofWish : MethodName := ⟨RX7, "ofWish", "(II)I"⟩
abbrev cX7_drop : ByteArray := prog_9_method_36_code
def yX7_drop : MethodName := ⟨RX7, "drop", "(I)I"⟩
abbrev cX7_isWithin : ByteArray := prog_9_method_37_code
def yX7_isWithin : MethodName := ⟨RX7, "isWithin", "(II)Z"⟩
abbrev cX7_meetBy : ByteArray := prog_9_method_38_code
def yX7_meetBy : MethodName := ⟨RX7, "meetBy", "(III)Z"⟩
abbrev cX7_layMeets : ByteArray := prog_9_method_39_code
def yX7_layMeets : MethodName := ⟨RX7, "layMeets", "()V"⟩
abbrev cX7_layMeetsAt : ByteArray := prog_9_method_40_code
def yX7_layMeetsAt : MethodName := ⟨RX7, "layMeetsAt", "(III)V"⟩
abbrev cX7_apart : ByteArray := prog_9_method_41_code
def yX7_apart : MethodName := ⟨RX7, "apart", "(II)I"⟩
abbrev cX7_size : ByteArray := prog_9_method_42_code
def yX7_size : MethodName := ⟨RX7, "size", "(I)I"⟩
abbrev cX7_mayAtOnce : ByteArray := prog_9_method_43_code
def yX7_mayAtOnce : MethodName := ⟨RX7, "mayAtOnce", "(I)Z"⟩
abbrev cX7_mostAtOnce : ByteArray := prog_9_method_44_code
def yX7_mostAtOnce : MethodName := ⟨RX7, "mostAtOnce", "()I"⟩
abbrev cX7_atOnce : ByteArray := prog_9_method_45_code
def yX7_atOnce : MethodName := ⟨RX7, "atOnce", "()I"⟩
abbrev cX7_mayBe : ByteArray := prog_9_method_46_code
def yX7_mayBe : MethodName := ⟨RX7, "mayBe", "(IIII)Z"⟩
abbrev cX7_mayGoOn : ByteArray := prog_9_method_47_code
def yX7_mayGoOn : MethodName := ⟨RX7, "mayGoOn", "(III)Z"⟩
abbrev cX7_find : ByteArray := prog_9_method_48_code
def yX7_find : MethodName := ⟨RX7, "find", "(II)Z"⟩
abbrev cX7_soonest : ByteArray := prog_9_method_49_code
def yX7_soonest : MethodName := ⟨RX7, "soonest", "(I)I"⟩
abbrev cX7_alone : ByteArray := prog_9_method_50_code
def yX7_alone : MethodName := ⟨RX7, "alone", "(I)I"⟩
abbrev cX7_sunset : ByteArray := prog_9_method_51_code
def yX7_sunset : MethodName := ⟨RX7, "sunset", "(I)I"⟩
abbrev cX7_reed : ByteArray := prog_9_method_52_code
def yX7_reed : MethodName := ⟨RX7, "reed", "(II)I"⟩
abbrev cX7_pull : ByteArray := prog_9_method_53_code
def yX7_pull : MethodName := ⟨RX7, "pull", "(I)I"⟩
abbrev cX7_doesFit : ByteArray := prog_9_method_54_code
def yX7_doesFit : MethodName := ⟨RX7, "doesFit", "(III)Z"⟩
abbrev cX7_fits : ByteArray := prog_9_method_55_code
def yX7_fits : MethodName := ⟨RX7, "fits", "(II)I"⟩
abbrev cX7_dig : ByteArray := prog_9_method_56_code
def yX7_dig : MethodName := ⟨RX7, "dig", "(I)I"⟩
abbrev cX7_sheet : ByteArray := prog_9_method_57_code
def yX7_sheet : MethodName := ⟨RX7, "sheet", "(III)I"⟩
abbrev cX7_lose : ByteArray := prog_9_method_58_code
def yX7_lose : MethodName := ⟨RX7, "lose", "(I)I"⟩
abbrev cX7_put : ByteArray := prog_9_method_59_code
def yX7_put : MethodName := ⟨RX7, "put", "(III)I"⟩
abbrev cX7_cell : ByteArray := prog_9_method_60_code
def yX7_cell : MethodName := ⟨RX7, "cell", "(III)J"⟩
abbrev cX7_copy : ByteArray := prog_9_method_61_code
def yX7_copy : MethodName := ⟨RX7, "copy", "(IIIII)I"⟩
abbrev cX7_begins : ByteArray := prog_9_method_62_code
def yX7_begins : MethodName := ⟨RX7, "begins", "(I)V"⟩
abbrev cX7_tell : ByteArray := prog_9_method_63_code
def yX7_tell : MethodName := ⟨RX7, "tell", "(I)I"⟩
abbrev cX7_make : ByteArray := prog_9_method_64_code
def yX7_make : MethodName := ⟨RX7, "make", "(I)I"⟩
abbrev cX7_as : ByteArray := prog_9_method_65_code
def yX7_as : MethodName := ⟨RX7, "as", "(II)I"⟩
abbrev cX7_trace : ByteArray := prog_9_method_66_code
def yX7_trace : MethodName := ⟨RX7, "trace", "()I"⟩
abbrev cX7_fault : ByteArray := prog_9_method_67_code
def yX7_fault : MethodName := ⟨RX7, "fault", "()I"⟩
abbrev cX7_many : ByteArray := prog_9_method_68_code
def yX7_many : MethodName := ⟨RX7, "many", "(I)I"⟩
def RJ6 : String := "java/lang/Integer"
def TJ6 : u_T := fun k => match k with
  | _ => ("", "", "", false)
def tyJ6 : Nat → FieldType := fun k => match k with
  | _ => .int
abbrev wsJ60 : List Cond := u_ws RJ6 TJ6 0
theorem nmJ6 : ∀ a, a < 0 → ∀ b, b < 0 → a ≠ b → (TJ6 a).2.1 ≠ (TJ6 b).2.1 := by decide +kernel
theorem tyJ6_ok : ∀ k, k < 0 → parseFieldDescriptor (TJ6 k).2.2.1 = some (tyJ6 k) := by decide +kernel
abbrev cJ6_bitCount_0f7a4 : ByteArray := prog_10_method_49_code
def yJ6_bitCount_0f7a4 : MethodName := ⟨RJ6, "bitCount", "(I)I"⟩
def RJ13 : String := "java/lang/Long"
def TJ13 : u_T := fun k => match k with
  | _ => ("", "", "", false)
def tyJ13 : Nat → FieldType := fun k => match k with
  | _ => .int
abbrev wsJ130 : List Cond := u_ws RJ13 TJ13 0
theorem nmJ13 : ∀ a, a < 0 → ∀ b, b < 0 → a ≠ b → (TJ13 a).2.1 ≠ (TJ13 b).2.1 := by decide +kernel
theorem tyJ13_ok : ∀ k, k < 0 → parseFieldDescriptor (TJ13 k).2.2.1 = some (tyJ13 k) := by decide +kernel
abbrev cJ13_bitCount_95d88 : ByteArray := prog_11_method_50_code
def yJ13_bitCount_95d88 : MethodName := ⟨RJ13, "bitCount", "(J)I"⟩
def RJ9 : String := "java/lang/Math"
def TJ9 : u_T := fun k => match k with
  | _ => ("", "", "", false)
def tyJ9 : Nat → FieldType := fun k => match k with
  | _ => .int
abbrev wsJ90 : List Cond := u_ws RJ9 TJ9 0
theorem nmJ9 : ∀ a, a < 0 → ∀ b, b < 0 → a ≠ b → (TJ9 a).2.1 ≠ (TJ9 b).2.1 := by decide +kernel
theorem tyJ9_ok : ∀ k, k < 0 → parseFieldDescriptor (TJ9 k).2.2.1 = some (tyJ9 k) := by decide +kernel
abbrev cJ9_abs_0f7a4 : ByteArray := prog_12_method_59_code
def yJ9_abs_0f7a4 : MethodName := ⟨RJ9, "abs", "(I)I"⟩
abbrev cJ9_max_7cf53 : ByteArray := prog_12_method_65_code
def yJ9_max_7cf53 : MethodName := ⟨RJ9, "max", "(II)I"⟩
abbrev cJ9_min_7cf53 : ByteArray := prog_12_method_69_code
def yJ9_min_7cf53 : MethodName := ⟨RJ9, "min", "(II)I"⟩
def RJ10 : String := "java/lang/System"
def TJ10 : u_T := fun k => match k with
  | _ => ("", "", "", false)
def tyJ10 : Nat → FieldType := fun k => match k with
  | _ => .int
abbrev wsJ100 : List Cond := u_ws RJ10 TJ10 0
theorem nmJ10 : ∀ a, a < 0 → ∀ b, b < 0 → a ≠ b → (TJ10 a).2.1 ≠ (TJ10 b).2.1 := by decide +kernel
theorem tyJ10_ok : ∀ k, k < 0 → parseFieldDescriptor (TJ10 k).2.2.1 = some (tyJ10 k) := by decide +kernel
def RJ7 : String := "java/util/Arrays"
def TJ7 : u_T := fun k => match k with
  | _ => ("", "", "", false)
def tyJ7 : Nat → FieldType := fun k => match k with
  | _ => .int
abbrev wsJ70 : List Cond := u_ws RJ7 TJ7 0
theorem nmJ7 : ∀ a, a < 0 → ∀ b, b < 0 → a ≠ b → (TJ7 a).2.1 ≠ (TJ7 b).2.1 := by decide +kernel
theorem tyJ7_ok : ∀ k, k < 0 → parseFieldDescriptor (TJ7 k).2.2.1 = some (tyJ7 k) := by decide +kernel
abbrev cJ7_fill_d0a16 : ByteArray := prog_14_method_101_code
def yJ7_fill_d0a16 : MethodName := ⟨RJ7, "fill", "([JJ)V"⟩
abbrev cJ7_fill_53178 : ByteArray := prog_14_method_103_code
def yJ7_fill_53178 : MethodName := ⟨RJ7, "fill", "([II)V"⟩
def RL : String := "PondRingsLaw"
def yL_law : MethodName := ⟨RL, "law", "([I)Z"⟩
end
section
/-! A SMALL MACHINE beside the large one: cells have places (numbers), a reference is a place; nothing is made. Whatever it computes, the large machine computes (part 08). -/
abbrev mm_C : Type := (Nat × vp_A) ⊕ (Nat × List Value)
abbrev mm_H : Type := List mm_C
abbrev mm_L : Type := List (Option Value)
/-- place in the code, locals, operand stack, cells -/
abbrev mm_F : Type := Nat × mm_L × List Value × mm_H
/-- a method: instructions, name, bytes, locals, what it returns, how many arguments, its class's number -/
abbrev mm_Mt : Type := List (Nat × Instr × Nat) × MethodName × ByteArray × Nat × Option FieldType × Nat × Nat
end
section
/-! the methods, their instructions and links, as tables (written by wip/whole/gen.py) -/
def mt_X0_has : List (Nat × Instr × Nat) := [(0, .iload_n 1, 1), (1, .ifCond .lt 15, 3), (4, .iload_n 1, 1), (5, .aload_n 0, 1), (6, .getfield 21, 3), (9, .if_icmp .ge 7, 3), (12, .iconst 1, 1), (13, .goto 4, 3), (16, .iconst 0, 1), (17, .ireturn, 1)]
def mt_X0_reach : List (Nat × Instr × Nat) := [(0, .getstatic 25, 3), (3, .aload_n 0, 1), (4, .getfield 9, 3), (7, .iload_n 1, 1), (8, .iaload, 1), (9, .iaload, 1), (10, .ireturn, 1)]
def mt_X0_add : List (Nat × Instr × Nat) := [(0, .aload_n 0, 1), (1, .getfield 21, 3), (4, .aload_n 0, 1), (5, .getfield 9, 3), (8, .arraylength, 1), (9, .if_icmp .lt 6, 3), (12, .bipush (-4), 2), (14, .ireturn, 1), (15, .aload_n 0, 1), (16, .getfield 9, 3), (19, .aload_n 0, 1), (20, .getfield 21, 3), (23, .iload_n 1, 1), (24, .iastore, 1), (25, .aload_n 0, 1), (26, .getfield 15, 3), (29, .aload_n 0, 1), (30, .getfield 21, 3), (33, .iload_n 2, 1), (34, .iastore, 1), (35, .aload_n 0, 1), (36, .getfield 18, 3), (39, .aload_n 0, 1), (40, .getfield 21, 3), (43, .iload_n 3, 1), (44, .iastore, 1), (45, .aload_n 0, 1), (46, .dup, 1), (47, .getfield 21, 3), (50, .iconst 1, 1), (51, .iadd, 1), (52, .putfield 21, 3), (55, .aload_n 0, 1), (56, .getfield 21, 3), (59, .iconst 1, 1), (60, .isub, 1), (61, .ireturn, 1)]
def mt_X0_takeBack : List (Nat × Instr × Nat) := [(0, .iload_n 1, 1), (1, .ifCond .lt 11, 3), (4, .iload_n 1, 1), (5, .aload_n 0, 1), (6, .getfield 21, 3), (9, .if_icmp .le 6, 3), (12, .bipush (-2), 2), (14, .ireturn, 1), (15, .aload_n 0, 1), (16, .dup, 1), (17, .getfield 21, 3), (20, .iload_n 1, 1), (21, .isub, 1), (22, .putfield 21, 3), (25, .aload_n 0, 1), (26, .getfield 21, 3), (29, .ireturn, 1)]
def mt_X1_ofStones : List (Nat × Instr × Nat) := [(0, .aload_n 2, 1), (1, .getfield 7, 3), (4, .iload 4, 2), (6, .iaload, 1), (7, .aload_n 2, 1), (8, .getfield 7, 3), (11, .iload_n 3, 1), (12, .iaload, 1), (13, .isub, 1), (14, .istore 5, 2), (16, .iload 5, 2), (18, .ifCond .lt 17, 3), (21, .aload_n 0, 1), (22, .aload_n 1, 1), (23, .aload_n 2, 1), (24, .iload_n 3, 1), (25, .iload 4, 2), (27, .iload 5, 2), (29, .invokevirtual 13, 3), (32, .goto 15, 3), (35, .aload_n 0, 1), (36, .aload_n 1, 1), (37, .aload_n 2, 1), (38, .iload 4, 2), (40, .iload_n 3, 1), (41, .iload 5, 2), (43, .ineg, 1), (44, .invokevirtual 13, 3), (47, .istore 6, 2), (49, .iload 6, 2), (51, .ifCond .eq 28, 3), (54, .aload_n 0, 1), (55, .dup, 1), (56, .getfield 19, 3), (59, .aload_n 2, 1), (60, .getfield 7, 3), (63, .iload_n 3, 1), (64, .iaload, 1), (65, .aload_n 2, 1), (66, .getfield 7, 3), (69, .iload 4, 2), (71, .iaload, 1), (72, .invokestatic 23, 3), (75, .iadd, 1), (76, .putfield 19, 3), (79, .iload 6, 2), (81, .ireturn, 1)]
def mt_X1_ofTwo : List (Nat × Instr × Nat) := [(0, .aload_n 2, 1), (1, .getfield 29, 3), (4, .iload_n 3, 1), (5, .iaload, 1), (6, .istore 6, 2), (8, .aload_n 2, 1), (9, .getfield 29, 3), (12, .iload 4, 2), (14, .iaload, 1), (15, .istore 7, 2), (17, .aload_n 1, 1), (18, .iload 6, 2), (20, .aload_n 2, 1), (21, .iload_n 3, 1), (22, .invokevirtual 32, 3), (25, .invokevirtual 36, 3), (28, .istore 8, 2), (30, .aload_n 1, 1), (31, .iload 7, 2), (33, .aload_n 2, 1), (34, .iload 4, 2), (36, .invokevirtual 32, 3), (39, .invokevirtual 36, 3), (42, .istore 9, 2), (44, .iconst 0, 1), (45, .istore 10, 2), (47, .iload 10, 2), (49, .iload 9, 2), (51, .if_icmp .ge 134, 3), (54, .iload 10, 2), (56, .iload 5, 2), (58, .iadd, 1), (59, .iload 8, 2), (61, .if_icmp .ge 124, 3), (64, .aload_n 1, 1), (65, .iload 6, 2), (67, .iload 8, 2), (69, .iload 10, 2), (71, .iload 5, 2), (73, .iadd, 1), (74, .invokevirtual 41, 3), (77, .lstore 11, 2), (79, .aload_n 1, 1), (80, .iload 7, 2), (82, .iload 9, 2), (84, .iload 10, 2), (86, .invokevirtual 41, 3), (89, .lstore 13, 2), (91, .lload 11, 2), (93, .lload 13, 2), (95, .land, 1), (96, .lstore 15, 2), (98, .lload 15, 2), (100, .lconst 0, 1), (101, .lcmp, 1), (102, .ifCond .ne 50, 3), (105, .aload_n 1, 1), (106, .iload 6, 2), (108, .iload 8, 2), (110, .iload 10, 2), (112, .iload 5, 2), (114, .iadd, 1), (115, .iconst 1, 1), (116, .iadd, 1), (117, .invokevirtual 41, 3), (120, .lstore 17, 2), (122, .aload_n 1, 1), (123, .iload 7, 2), (125, .iload 9, 2), (127, .iload 10, 2), (129, .iconst 1, 1), (130, .iadd, 1), (131, .invokevirtual 41, 3), (134, .lstore 19, 2), (136, .aload_n 1, 1), (137, .lload 11, 2), (139, .lload 19, 2), (141, .land, 1), (142, .lload 13, 2), (144, .lload 17, 2), (146, .land, 1), (147, .invokevirtual 45, 3), (150, .lstore 15, 2), (152, .lload 15, 2), (154, .lconst 0, 1), (155, .lcmp, 1), (156, .ifCond .eq 23, 3), (159, .aload_n 0, 1), (160, .iload 10, 2), (162, .iload 5, 2), (164, .iadd, 1), (165, .putfield 19, 3), (168, .aload_n 0, 1), (169, .lload 15, 2), (171, .invokestatic 49, 3), (174, .putfield 55, 3), (177, .iconst 1, 1), (178, .ireturn, 1), (179, .iinc 10 1, 3), (182, .goto (-135), 3), (185, .iconst 0, 1), (186, .ireturn, 1)]
def mt_X2_begin : List (Nat × Instr × Nat) := [(0, .aload_n 0, 1), (1, .iload_n 2, 1), (2, .putfield 19, 3), (5, .aload_n 0, 1), (6, .iload_n 1, 1), (7, .iload_n 2, 1), (8, .imul, 1), (9, .putfield 23, 3), (12, .aload_n 0, 1), (13, .lconst 0, 1), (14, .putfield 26, 3), (17, .iconst 0, 1), (18, .istore 5, 2), (20, .iload 5, 2), (22, .iload_n 1, 1), (23, .if_icmp .ge 24, 3), (26, .aload_n 0, 1), (27, .dup, 1), (28, .getfield 26, 3), (31, .lconst 1, 1), (32, .iload 5, 2), (34, .iload_n 2, 1), (35, .imul, 1), (36, .lshl, 1), (37, .lor, 1), (38, .putfield 26, 3), (41, .iinc 5 1, 3), (44, .goto (-24), 3), (47, .aload_n 0, 1), (48, .aload_n 0, 1), (49, .getfield 26, 3), (52, .iload_n 2, 1), (53, .iconst 1, 1), (54, .isub, 1), (55, .lshl, 1), (56, .putfield 30, 3), (59, .aload_n 0, 1), (60, .lload_n 3, 1), (61, .invokevirtual 33, 3), (64, .return_, 1)]
def mt_X2_turnTo : List (Nat × Instr × Nat) := [(0, .aload_n 0, 1), (1, .lload_n 1, 1), (2, .putfield 37, 3), (5, .aload_n 0, 1), (6, .lconst 0, 1), (7, .putfield 40, 3), (10, .return_, 1)]
def mt_X2_has : List (Nat × Instr × Nat) := [(0, .iload_n 1, 1), (1, .ifCond .lt 15, 3), (4, .iload_n 1, 1), (5, .aload_n 0, 1), (6, .getfield 23, 3), (9, .if_icmp .ge 7, 3), (12, .iconst 1, 1), (13, .goto 4, 3), (16, .iconst 0, 1), (17, .ireturn, 1)]
def mt_X2_isWater : List (Nat × Instr × Nat) := [(0, .iload_n 1, 1), (1, .ifCond .lt 28, 3), (4, .iload_n 1, 1), (5, .aload_n 0, 1), (6, .getfield 23, 3), (9, .if_icmp .ge 20, 3), (12, .aload_n 0, 1), (13, .getfield 37, 3), (16, .iload_n 1, 1), (17, .lushr, 1), (18, .lconst 1, 1), (19, .land, 1), (20, .lconst 0, 1), (21, .lcmp, 1), (22, .ifCond .eq 7, 3), (25, .iconst 1, 1), (26, .goto 4, 3), (29, .iconst 0, 1), (30, .ireturn, 1)]
def mt_X2_steps : List (Nat × Instr × Nat) := [(0, .aload_n 0, 1), (1, .iload_n 1, 1), (2, .invokevirtual 43, 3), (5, .ifCond .eq 11, 3), (8, .aload_n 0, 1), (9, .iload_n 2, 1), (10, .invokevirtual 43, 3), (13, .ifCond .ne 6, 3), (16, .bipush (-9), 2), (18, .ireturn, 1), (19, .aload_n 0, 1), (20, .iload_n 1, 1), (21, .bipush 42, 2), (23, .invokevirtual 47, 3), (26, .istore_n 3, 1), (27, .iconst 0, 1), (28, .istore 4, 2), (30, .iload 4, 2), (32, .iload_n 3, 1), (33, .if_icmp .ge 33, 3), (36, .aload_n 0, 1), (37, .getfield 11, 3), (40, .iload_n 1, 1), (41, .bipush 42, 2), (43, .imul, 1), (44, .iload 4, 2), (46, .iadd, 1), (47, .laload, 1), (48, .iload_n 2, 1), (49, .lushr, 1), (50, .lconst 1, 1), (51, .land, 1), (52, .lconst 0, 1), (53, .lcmp, 1), (54, .ifCond .eq 6, 3), (57, .iload 4, 2), (59, .ireturn, 1), (60, .iinc 4 1, 3), (63, .goto (-33), 3), (66, .bipush (-9), 2), (68, .ireturn, 1)]
def mt_X2_lasts : List (Nat × Instr × Nat) := [(0, .aload_n 0, 1), (1, .iload_n 1, 1), (2, .invokevirtual 43, 3), (5, .ifCond .ne 5, 3), (8, .iconst 0, 1), (9, .ireturn, 1), (10, .aload_n 0, 1), (11, .getfield 40, 3), (14, .iload_n 1, 1), (15, .lushr, 1), (16, .lconst 1, 1), (17, .land, 1), (18, .lconst 0, 1), (19, .lcmp, 1), (20, .ifCond .ne 8, 3), (23, .aload_n 0, 1), (24, .iload_n 1, 1), (25, .invokevirtual 51, 3), (28, .aload_n 0, 1), (29, .getfield 15, 3), (32, .iload_n 1, 1), (33, .iaload, 1), (34, .iload_n 2, 1), (35, .iconst 1, 1), (36, .iadd, 1), (37, .invokestatic 55, 3), (40, .ireturn, 1)]
def mt_X2_ringAt : List (Nat × Instr × Nat) := [(0, .aload_n 0, 1), (1, .iload_n 1, 1), (2, .invokevirtual 60, 3), (5, .ifCond .eq 26, 3), (8, .iload_n 3, 1), (9, .ifCond .lt 22, 3), (12, .iload_n 3, 1), (13, .iload_n 2, 1), (14, .if_icmp .ge 17, 3), (17, .aload_n 0, 1), (18, .getfield 11, 3), (21, .iload_n 1, 1), (22, .bipush 42, 2), (24, .imul, 1), (25, .iload_n 3, 1), (26, .iadd, 1), (27, .laload, 1), (28, .goto 4, 3), (31, .lconst 0, 1), (32, .lreturn, 1)]
def mt_X2_spread : List (Nat × Instr × Nat) := [(0, .lconst 1, 1), (1, .iload_n 1, 1), (2, .lshl, 1), (3, .lstore_n 2, 1), (4, .lload_n 2, 1), (5, .lstore 4, 2), (7, .iconst 0, 1), (8, .istore 6, 2), (10, .lload_n 2, 1), (11, .lconst 0, 1), (12, .lcmp, 1), (13, .ifCond .eq 91, 3), (16, .iload 6, 2), (18, .bipush 42, 2), (20, .if_icmp .ge 84, 3), (23, .aload_n 0, 1), (24, .getfield 11, 3), (27, .iload_n 1, 1), (28, .bipush 42, 2), (30, .imul, 1), (31, .iload 6, 2), (33, .iadd, 1), (34, .lload_n 2, 1), (35, .lastore, 1), (36, .iinc 6 1, 3), (39, .lload_n 2, 1), (40, .aload_n 0, 1), (41, .getfield 30, 3), (44, .ldc2_w 63, 3), (47, .lxor, 1), (48, .land, 1), (49, .iconst 1, 1), (50, .lshl, 1), (51, .lload_n 2, 1), (52, .aload_n 0, 1), (53, .getfield 26, 3), (56, .ldc2_w 63, 3), (59, .lxor, 1), (60, .land, 1), (61, .iconst 1, 1), (62, .lushr, 1), (63, .lor, 1), (64, .lstore 7, 2), (66, .lload 7, 2), (68, .lload_n 2, 1), (69, .aload_n 0, 1), (70, .getfield 19, 3), (73, .lshl, 1), (74, .lor, 1), (75, .lload_n 2, 1), (76, .aload_n 0, 1), (77, .getfield 19, 3), (80, .lushr, 1), (81, .lor, 1), (82, .aload_n 0, 1), (83, .getfield 37, 3), (86, .land, 1), (87, .lload 4, 2), (89, .ldc2_w 63, 3), (92, .lxor, 1), (93, .land, 1), (94, .lstore_n 2, 1), (95, .lload 4, 2), (97, .lload_n 2, 1), (98, .lor, 1), (99, .lstore 4, 2), (101, .goto (-91), 3), (104, .aload_n 0, 1), (105, .getfield 15, 3), (108, .iload_n 1, 1), (109, .iload 6, 2), (111, .iastore, 1), (112, .aload_n 0, 1), (113, .dup, 1), (114, .getfield 40, 3), (117, .lconst 1, 1), (118, .iload_n 1, 1), (119, .lshl, 1), (120, .lor, 1), (121, .putfield 40, 3), (124, .return_, 1)]
def mt_X2_lesserBeside : List (Nat × Instr × Nat) := [(0, .lload_n 1, 1), (1, .lload_n 3, 1), (2, .iconst 1, 1), (3, .lushr, 1), (4, .land, 1), (5, .lload_n 3, 1), (6, .lload_n 1, 1), (7, .iconst 1, 1), (8, .lushr, 1), (9, .land, 1), (10, .lor, 1), (11, .aload_n 0, 1), (12, .getfield 30, 3), (15, .ldc2_w 63, 3), (18, .lxor, 1), (19, .land, 1), (20, .lstore 5, 2), (22, .lload 5, 2), (24, .lload_n 1, 1), (25, .lload_n 3, 1), (26, .aload_n 0, 1), (27, .getfield 19, 3), (30, .lushr, 1), (31, .land, 1), (32, .lor, 1), (33, .lload_n 3, 1), (34, .lload_n 1, 1), (35, .aload_n 0, 1), (36, .getfield 19, 3), (39, .lushr, 1), (40, .land, 1), (41, .lor, 1), (42, .lreturn, 1)]
def mt_X3_read : List (Nat × Instr × Nat) := [(0, .aload_n 0, 1), (1, .iconst 0, 1), (2, .putfield 7, 3), (5, .aload_n 0, 1), (6, .iconst 0, 1), (7, .putfield 13, 3), (10, .aload_n 0, 1), (11, .lconst 0, 1), (12, .putfield 16, 3), (15, .iconst 0, 1), (16, .istore 4, 2), (18, .iload 4, 2), (20, .iload_n 3, 1), (21, .if_icmp .ge 30, 3), (24, .aload_n 0, 1), (25, .iload 4, 2), (27, .aload_n 1, 1), (28, .getfield 20, 3), (31, .iload_n 2, 1), (32, .iload 4, 2), (34, .iadd, 1), (35, .iaload, 1), (36, .invokevirtual 26, 3), (39, .ifCond .ne 6, 3), (42, .iload 4, 2), (44, .ireturn, 1), (45, .iinc 4 1, 3), (48, .goto (-30), 3), (51, .iload_n 3, 1), (52, .iconst 3, 1), (53, .if_icmp .lt 11, 3), (56, .iload_n 3, 1), (57, .aload_n 0, 1), (58, .invokevirtual 30, 3), (61, .if_icmp .ge 7, 3), (64, .iload_n 3, 1), (65, .goto 4, 3), (68, .iconst (-1), 1), (69, .ireturn, 1)]
def mt_X3_end : List (Nat × Instr × Nat) := [(0, .iconst 3, 1), (1, .aload_n 0, 1), (2, .getfield 7, 3), (5, .aload_n 0, 1), (6, .getfield 13, 3), (9, .iconst 1, 1), (10, .iadd, 1), (11, .imul, 1), (12, .iadd, 1), (13, .ireturn, 1)]
def mt_X3_goesOn : List (Nat × Instr × Nat) := [(0, .iload_n 1, 1), (1, .tableswitch 91 0 2 #[27, 39, 65], 27), (28, .iload_n 2, 1), (29, .bipush 112, 2), (31, .if_icmp .ne 7, 3), (34, .iconst 1, 1), (35, .goto 4, 3), (38, .iconst 0, 1), (39, .ireturn, 1), (40, .aload_n 0, 1), (41, .iload_n 2, 1), (42, .bipush 48, 2), (44, .isub, 1), (45, .putfield 7, 3), (48, .iload_n 2, 1), (49, .bipush 49, 2), (51, .if_icmp .lt 13, 3), (54, .iload_n 2, 1), (55, .bipush 54, 2), (57, .if_icmp .gt 7, 3), (60, .iconst 1, 1), (61, .goto 4, 3), (64, .iconst 0, 1), (65, .ireturn, 1), (66, .aload_n 0, 1), (67, .iload_n 2, 1), (68, .bipush 48, 2), (70, .isub, 1), (71, .putfield 13, 3), (74, .iload_n 2, 1), (75, .bipush 49, 2), (77, .if_icmp .lt 13, 3), (80, .iload_n 2, 1), (81, .bipush 55, 2), (83, .if_icmp .gt 7, 3), (86, .iconst 1, 1), (87, .goto 4, 3), (90, .iconst 0, 1), (91, .ireturn, 1), (92, .iload_n 1, 1), (93, .aload_n 0, 1), (94, .invokevirtual 30, 3), (97, .if_icmp .ge 18, 3), (100, .aload_n 0, 1), (101, .iload_n 1, 1), (102, .iconst 3, 1), (103, .isub, 1), (104, .iload_n 2, 1), (105, .invokevirtual 34, 3), (108, .ifCond .eq 7, 3), (111, .iconst 1, 1), (112, .goto 4, 3), (115, .iconst 0, 1), (116, .ireturn, 1)]
def mt_X3_goesOnInRows : List (Nat × Instr × Nat) := [(0, .iload_n 1, 1), (1, .aload_n 0, 1), (2, .getfield 13, 3), (5, .iconst 1, 1), (6, .iadd, 1), (7, .irem, 1), (8, .iconst 1, 1), (9, .isub, 1), (10, .istore_n 3, 1), (11, .iload_n 3, 1), (12, .ifCond .ge 15, 3), (15, .iload_n 2, 1), (16, .bipush 59, 2), (18, .if_icmp .ne 7, 3), (21, .iconst 1, 1), (22, .goto 4, 3), (25, .iconst 0, 1), (26, .ireturn, 1), (27, .iload_n 2, 1), (28, .bipush 46, 2), (30, .if_icmp .ne 29, 3), (33, .aload_n 0, 1), (34, .dup, 1), (35, .getfield 16, 3), (38, .lconst 1, 1), (39, .iload_n 1, 1), (40, .aload_n 0, 1), (41, .getfield 13, 3), (44, .iconst 1, 1), (45, .iadd, 1), (46, .idiv, 1), (47, .aload_n 0, 1), (48, .getfield 13, 3), (51, .imul, 1), (52, .iload_n 3, 1), (53, .iadd, 1), (54, .lshl, 1), (55, .lor, 1), (56, .putfield 16, 3), (59, .iload_n 2, 1), (60, .bipush 46, 2), (62, .if_icmp .eq 9, 3), (65, .iload_n 2, 1), (66, .bipush 35, 2), (68, .if_icmp .ne 7, 3), (71, .iconst 1, 1), (72, .goto 4, 3), (75, .iconst 0, 1), (76, .ireturn, 1)]
def mt_X4_renew : List (Nat × Instr × Nat) := [(0, .aload_n 0, 1), (1, .iconst 1, 1), (2, .putfield 13, 3), (5, .aload_n 0, 1), (6, .iload_n 1, 1), (7, .putfield 17, 3), (10, .aload_n 0, 1), (11, .iload_n 2, 1), (12, .putfield 21, 3), (15, .aload_n 0, 1), (16, .getfield 9, 3), (19, .iconst 0, 1), (20, .invokestatic 24, 3), (23, .return_, 1)]
def mt_X4_isOfAnother : List (Nat × Instr × Nat) := [(0, .aload_n 0, 1), (1, .getfield 13, 3), (4, .ifCond .eq 15, 3), (7, .aload_n 0, 1), (8, .getfield 17, 3), (11, .iload_n 1, 1), (12, .if_icmp .eq 7, 3), (15, .iconst 1, 1), (16, .goto 4, 3), (19, .iconst 0, 1), (20, .ireturn, 1)]
def mt_X4_hasCells : List (Nat × Instr × Nat) := [(0, .iload_n 1, 1), (1, .ifCond .lt 29, 3), (4, .iload_n 2, 1), (5, .ifCond .lt 25, 3), (8, .iload_n 1, 1), (9, .aload_n 0, 1), (10, .getfield 21, 3), (13, .if_icmp .gt 17, 3), (16, .iload_n 2, 1), (17, .aload_n 0, 1), (18, .getfield 21, 3), (21, .iload_n 1, 1), (22, .isub, 1), (23, .if_icmp .gt 7, 3), (26, .iconst 1, 1), (27, .goto 4, 3), (30, .iconst 0, 1), (31, .ireturn, 1)]
def mt_X4_take : List (Nat × Instr × Nat) := [(0, .aload_n 0, 1), (1, .getfield 17, 3), (4, .ifCond .ne 14, 3), (7, .aload_n 0, 1), (8, .getfield 9, 3), (11, .iload_n 1, 1), (12, .iload_n 2, 1), (13, .i2b, 1), (14, .iastore, 1), (15, .goto 23, 3), (18, .aload_n 0, 1), (19, .getfield 9, 3), (22, .iload_n 1, 1), (23, .aload_n 0, 1), (24, .getfield 17, 3), (27, .iconst 1, 1), (28, .if_icmp .ne 8, 3), (31, .iload_n 2, 1), (32, .i2s, 1), (33, .goto 4, 3), (36, .iload_n 2, 1), (37, .iastore, 1), (38, .return_, 1)]
def mt_X5_forgetPlan : List (Nat × Instr × Nat) := [(0, .aload_n 0, 1), (1, .iconst 0, 1), (2, .putfield 31, 3), (5, .return_, 1)]
def mt_X5_learn : List (Nat × Instr × Nat) := [(0, .aload_n 0, 1), (1, .invokevirtual 35, 3), (4, .iconst 0, 1), (5, .istore 5, 2), (7, .iload 5, 2), (9, .iload_n 1, 1), (10, .if_icmp .ge 31, 3), (13, .aload_n 0, 1), (14, .iload 5, 2), (16, .iload_n 1, 1), (17, .aload_n 2, 1), (18, .aload_n 3, 1), (19, .aload 4, 2), (21, .invokevirtual 38, 3), (24, .aload_n 0, 1), (25, .iload_n 1, 1), (26, .iload 5, 2), (28, .aload_n 2, 1), (29, .aload_n 3, 1), (30, .aload 4, 2), (32, .invokevirtual 38, 3), (35, .iinc 5 1, 3), (38, .goto (-31), 3), (41, .return_, 1)]
def mt_X5_learnPair : List (Nat × Instr × Nat) := [(0, .lconst 0, 1), (1, .lstore 6, 2), (3, .lconst 0, 1), (4, .lstore 8, 2), (6, .aload_n 3, 1), (7, .aload 4, 2), (9, .getfield 42, 3), (12, .iload_n 1, 1), (13, .iaload, 1), (14, .aload 4, 2), (16, .iload_n 1, 1), (17, .invokevirtual 47, 3), (20, .invokevirtual 51, 3), (23, .istore 10, 2), (25, .iconst 0, 1), (26, .istore 11, 2), (28, .iload 11, 2), (30, .iload 10, 2), (32, .if_icmp .ge 45, 3), (35, .aload 5, 2), (37, .aload_n 3, 1), (38, .aload 4, 2), (40, .iload_n 1, 1), (41, .iload_n 2, 1), (42, .iload 11, 2), (44, .invokevirtual 57, 3), (47, .ifCond .eq 24, 3), (50, .lload 6, 2), (52, .lconst 1, 1), (53, .iload 11, 2), (55, .lshl, 1), (56, .lor, 1), (57, .lstore 6, 2), (59, .lload 8, 2), (61, .lconst 1, 1), (62, .bipush 63, 2), (64, .iload 11, 2), (66, .isub, 1), (67, .lshl, 1), (68, .lor, 1), (69, .lstore 8, 2), (71, .iinc 11 1, 3), (74, .goto (-46), 3), (77, .aload_n 0, 1), (78, .getfield 11, 3), (81, .iload_n 1, 1), (82, .bipush 6, 2), (84, .imul, 1), (85, .iload_n 2, 1), (86, .iadd, 1), (87, .lload 6, 2), (89, .lastore, 1), (90, .aload_n 0, 1), (91, .getfield 15, 3), (94, .iload_n 2, 1), (95, .bipush 6, 2), (97, .imul, 1), (98, .iload_n 1, 1), (99, .iadd, 1), (100, .lload 8, 2), (102, .lastore, 1), (103, .return_, 1)]
def mt_X5_leastGap : List (Nat × Instr × Nat) := [(0, .aload_n 0, 1), (1, .getfield 11, 3), (4, .iload_n 1, 1), (5, .bipush 6, 2), (7, .imul, 1), (8, .iload_n 2, 1), (9, .iadd, 1), (10, .laload, 1), (11, .ldc2_w 63, 3), (14, .lxor, 1), (15, .invokestatic 65, 3), (18, .ireturn, 1)]
def mt_X5_throwInTurn : List (Nat × Instr × Nat) := [(0, .iconst 0, 1), (1, .istore_n 2, 1), (2, .iconst 0, 1), (3, .istore_n 3, 1), (4, .iload_n 3, 1), (5, .iload_n 1, 1), (6, .if_icmp .ge 51, 3), (9, .iconst 0, 1), (10, .istore 4, 2), (12, .iload 4, 2), (14, .sipush 1000, 3), (17, .if_icmp .ge 19, 3), (20, .aload_n 0, 1), (21, .iload_n 3, 1), (22, .iload 4, 2), (24, .invokevirtual 69, 3), (27, .ifCond .eq 9, 3), (30, .iinc 4 1, 3), (33, .goto (-21), 3), (36, .aload_n 0, 1), (37, .getfield 25, 3), (40, .iload_n 3, 1), (41, .iload 4, 2), (43, .iastore, 1), (44, .iload_n 2, 1), (45, .iload 4, 2), (47, .invokestatic 73, 3), (50, .istore_n 2, 1), (51, .iinc 3 1, 3), (54, .goto (-50), 3), (57, .iload_n 2, 1), (58, .ireturn, 1)]
def mt_X5_meetsOneAhead : List (Nat × Instr × Nat) := [(0, .iconst 0, 1), (1, .istore_n 3, 1), (2, .iload_n 3, 1), (3, .iload_n 1, 1), (4, .if_icmp .ge 79, 3), (7, .iload_n 2, 1), (8, .aload_n 0, 1), (9, .getfield 25, 3), (12, .iload_n 3, 1), (13, .iaload, 1), (14, .isub, 1), (15, .istore 4, 2), (17, .iload 4, 2), (19, .ifCond .lt 17, 3), (22, .aload_n 0, 1), (23, .getfield 11, 3), (26, .iload_n 3, 1), (27, .bipush 6, 2), (29, .imul, 1), (30, .iload_n 1, 1), (31, .iadd, 1), (32, .laload, 1), (33, .goto 14, 3), (36, .aload_n 0, 1), (37, .getfield 11, 3), (40, .iload_n 1, 1), (41, .bipush 6, 2), (43, .imul, 1), (44, .iload_n 3, 1), (45, .iadd, 1), (46, .laload, 1), (47, .lstore 5, 2), (49, .iload 4, 2), (51, .invokestatic 78, 3), (54, .istore 7, 2), (56, .iload 7, 2), (58, .bipush 63, 2), (60, .if_icmp .gt 17, 3), (63, .lload 5, 2), (65, .iload 7, 2), (67, .lushr, 1), (68, .lconst 1, 1), (69, .land, 1), (70, .lconst 0, 1), (71, .lcmp, 1), (72, .ifCond .eq 5, 3), (75, .iconst 1, 1), (76, .ireturn, 1), (77, .iinc 3 1, 3), (80, .goto (-78), 3), (83, .iconst 0, 1), (84, .ireturn, 1)]
def mt_X5_makePlan : List (Nat × Instr × Nat) := [(0, .aload_n 0, 1), (1, .getfield 31, 3), (4, .ifCond .eq 4, 3), (7, .return_, 1), (8, .iconst 1, 1), (9, .iload_n 1, 1), (10, .ishl, 1), (11, .iconst 1, 1), (12, .isub, 1), (13, .istore_n 2, 1), (14, .aload_n 0, 1), (15, .iload_n 1, 1), (16, .invokevirtual 81, 3), (19, .istore_n 3, 1), (20, .aload_n 0, 1), (21, .iload_n 2, 1), (22, .iload_n 3, 1), (23, .invokevirtual 84, 3), (26, .ifCond .ne 15, 3), (29, .iload_n 3, 1), (30, .bipush 63, 2), (32, .if_icmp .ge 9, 3), (35, .iinc 3 1, 3), (38, .goto (-18), 3), (41, .aload_n 0, 1), (42, .iload_n 3, 1), (43, .putfield 87, 3), (46, .iconst 0, 1), (47, .istore 4, 2), (49, .iload 4, 2), (51, .iload_n 1, 1), (52, .if_icmp .ge 33, 3), (55, .aload_n 0, 1), (56, .getfield 28, 3), (59, .iload 4, 2), (61, .aload_n 0, 1), (62, .iload 4, 2), (64, .iload_n 2, 1), (65, .iload 4, 2), (67, .iconst 1, 1), (68, .iadd, 1), (69, .ishr, 1), (70, .iload 4, 2), (72, .iconst 1, 1), (73, .iadd, 1), (74, .ishl, 1), (75, .invokevirtual 91, 3), (78, .iastore, 1), (79, .iinc 4 1, 3), (82, .goto (-33), 3), (85, .aload_n 0, 1), (86, .iconst 1, 1), (87, .putfield 31, 3), (90, .return_, 1)]
def mt_X5_firstThatWillDo : List (Nat × Instr × Nat) := [(0, .aload_n 0, 1), (1, .getfield 18, 3), (4, .iload_n 1, 1), (5, .bipush 6, 2), (7, .imul, 1), (8, .iload_n 1, 1), (9, .iadd, 1), (10, .laload, 1), (11, .lstore_n 3, 1), (12, .lload_n 3, 1), (13, .invokestatic 94, 3), (16, .istore 5, 2), (18, .iload 5, 2), (20, .ifCond .le 47, 3), (23, .lload_n 3, 1), (24, .invokestatic 65, 3), (27, .istore 6, 2), (29, .lload_n 3, 1), (30, .lload_n 3, 1), (31, .lconst 1, 1), (32, .lsub, 1), (33, .land, 1), (34, .lstore_n 3, 1), (35, .aload_n 0, 1), (36, .iload_n 1, 1), (37, .iload_n 2, 1), (38, .iload_n 1, 1), (39, .iload 6, 2), (41, .invokevirtual 99, 3), (44, .ifCond .eq 17, 3), (47, .aload_n 0, 1), (48, .iload_n 1, 1), (49, .iconst 1, 1), (50, .iadd, 1), (51, .iload_n 2, 1), (52, .invokevirtual 103, 3), (55, .ifCond .eq 6, 3), (58, .iload 6, 2), (60, .ireturn, 1), (61, .iinc 5 (-1), 3), (64, .goto (-46), 3), (67, .iconst 0, 1), (68, .ireturn, 1)]
def mt_X5_widestPair : List (Nat × Instr × Nat) := [(0, .iconst 0, 1), (1, .istore_n 2, 1), (2, .iconst 0, 1), (3, .istore_n 3, 1), (4, .iload_n 3, 1), (5, .iload_n 1, 1), (6, .if_icmp .ge 48, 3), (9, .iload_n 3, 1), (10, .iconst 1, 1), (11, .iadd, 1), (12, .istore 4, 2), (14, .iload 4, 2), (16, .iload_n 1, 1), (17, .if_icmp .ge 31, 3), (20, .iload_n 2, 1), (21, .aload_n 0, 1), (22, .iload_n 3, 1), (23, .iload 4, 2), (25, .invokevirtual 106, 3), (28, .aload_n 0, 1), (29, .iload 4, 2), (31, .iload_n 3, 1), (32, .invokevirtual 106, 3), (35, .invokestatic 109, 3), (38, .invokestatic 73, 3), (41, .istore_n 2, 1), (42, .iinc 4 1, 3), (45, .goto (-31), 3), (48, .iinc 3 1, 3), (51, .goto (-47), 3), (54, .iload_n 2, 1), (55, .ireturn, 1)]
def mt_X5_mostBy : List (Nat × Instr × Nat) := [(0, .iload_n 2, 1), (1, .istore_n 3, 1), (2, .iload_n 3, 1), (3, .ifCond .le 48, 3), (6, .iconst 1, 1), (7, .istore 4, 2), (9, .iload 4, 2), (11, .iconst 1, 1), (12, .iload_n 2, 1), (13, .ishl, 1), (14, .if_icmp .ge 31, 3), (17, .iload 4, 2), (19, .invokestatic 112, 3), (22, .iload_n 3, 1), (23, .if_icmp .ne 16, 3), (26, .aload_n 0, 1), (27, .iload 4, 2), (29, .iload_n 1, 1), (30, .invokevirtual 84, 3), (33, .ifCond .eq 6, 3), (36, .iload 4, 2), (38, .ireturn, 1), (39, .iinc 4 1, 3), (42, .goto (-33), 3), (45, .iinc 3 (-1), 3), (48, .goto (-46), 3), (51, .iconst 0, 1), (52, .ireturn, 1)]
def mt_X5_canThrow : List (Nat × Instr × Nat) := [(0, .aload_n 0, 1), (1, .getfield 18, 3), (4, .ldc2_w 63, 3), (7, .bipush 63, 2), (9, .iload_n 2, 1), (10, .isub, 1), (11, .lushr, 1), (12, .invokestatic 116, 3), (15, .iconst 0, 1), (16, .istore_n 3, 1), (17, .iload_n 3, 1), (18, .bipush 6, 2), (20, .if_icmp .ge 21, 3), (23, .aload_n 0, 1), (24, .getfield 21, 3), (27, .iload_n 3, 1), (28, .aload_n 0, 1), (29, .iload_n 1, 1), (30, .iload_n 3, 1), (31, .invokevirtual 122, 3), (34, .iastore, 1), (35, .iinc 3 1, 3), (38, .goto (-21), 3), (41, .aload_n 0, 1), (42, .iconst 0, 1), (43, .iload_n 1, 1), (44, .invokevirtual 103, 3), (47, .ireturn, 1)]
def mt_X5_weightIn : List (Nat × Instr × Nat) := [(0, .iconst 0, 1), (1, .istore_n 3, 1), (2, .iconst 0, 1), (3, .istore 4, 2), (5, .iload 4, 2), (7, .bipush 6, 2), (9, .if_icmp .ge 58, 3), (12, .iload 4, 2), (14, .iload_n 2, 1), (15, .if_icmp .eq 46, 3), (18, .iload_n 1, 1), (19, .iload 4, 2), (21, .ishr, 1), (22, .iconst 1, 1), (23, .iand, 1), (24, .ifCond .eq 37, 3), (27, .iload_n 3, 1), (28, .aload_n 0, 1), (29, .getfield 11, 3), (32, .iload_n 2, 1), (33, .bipush 6, 2), (35, .imul, 1), (36, .iload 4, 2), (38, .iadd, 1), (39, .laload, 1), (40, .invokestatic 94, 3), (43, .aload_n 0, 1), (44, .getfield 15, 3), (47, .iload_n 2, 1), (48, .bipush 6, 2), (50, .imul, 1), (51, .iload 4, 2), (53, .iadd, 1), (54, .laload, 1), (55, .invokestatic 94, 3), (58, .iadd, 1), (59, .iadd, 1), (60, .istore_n 3, 1), (61, .iinc 4 1, 3), (64, .goto (-59), 3), (67, .iload_n 3, 1), (68, .ireturn, 1)]
def mt_X5_canPlace : List (Nat × Instr × Nat) := [(0, .iload_n 2, 1), (1, .ifCond .eq 9, 3), (4, .iload_n 1, 1), (5, .bipush 6, 2), (7, .if_icmp .lt 5, 3), (10, .iconst 1, 1), (11, .ireturn, 1), (12, .aload_n 0, 1), (13, .iload_n 1, 1), (14, .iload_n 2, 1), (15, .invokevirtual 125, 3), (18, .istore_n 3, 1), (19, .iload_n 2, 1), (20, .iconst 1, 1), (21, .iload_n 3, 1), (22, .ishl, 1), (23, .iconst (-1), 1), (24, .ixor, 1), (25, .iand, 1), (26, .istore 4, 2), (28, .aload_n 0, 1), (29, .getfield 18, 3), (32, .iload_n 1, 1), (33, .bipush 6, 2), (35, .imul, 1), (36, .iload_n 3, 1), (37, .iadd, 1), (38, .laload, 1), (39, .lstore 5, 2), (41, .lload 5, 2), (43, .invokestatic 94, 3), (46, .istore 7, 2), (48, .iload 7, 2), (50, .ifCond .le 52, 3), (53, .lload 5, 2), (55, .invokestatic 65, 3), (58, .istore 8, 2), (60, .lload 5, 2), (62, .lload 5, 2), (64, .lconst 1, 1), (65, .lsub, 1), (66, .land, 1), (67, .lstore 5, 2), (69, .aload_n 0, 1), (70, .iload_n 1, 1), (71, .iload 4, 2), (73, .iload_n 3, 1), (74, .iload 8, 2), (76, .invokevirtual 99, 3), (79, .ifCond .eq 17, 3), (82, .aload_n 0, 1), (83, .iload_n 1, 1), (84, .iconst 1, 1), (85, .iadd, 1), (86, .iload 4, 2), (88, .invokevirtual 103, 3), (91, .ifCond .eq 5, 3), (94, .iconst 1, 1), (95, .ireturn, 1), (96, .iinc 7 (-1), 3), (99, .goto (-51), 3), (102, .iconst 0, 1), (103, .ireturn, 1)]
def mt_X5_tightest : List (Nat × Instr × Nat) := [(0, .iload_n 2, 1), (1, .i2l, 1), (2, .invokestatic 65, 3), (5, .istore_n 3, 1), (6, .aload_n 0, 1), (7, .getfield 18, 3), (10, .iload_n 1, 1), (11, .bipush 6, 2), (13, .imul, 1), (14, .iload_n 3, 1), (15, .iadd, 1), (16, .laload, 1), (17, .invokestatic 94, 3), (20, .istore 4, 2), (22, .iload_n 3, 1), (23, .iconst 1, 1), (24, .iadd, 1), (25, .istore 5, 2), (27, .iload 5, 2), (29, .bipush 6, 2), (31, .if_icmp .ge 72, 3), (34, .iload_n 2, 1), (35, .iload 5, 2), (37, .ishr, 1), (38, .iconst 1, 1), (39, .iand, 1), (40, .ifCond .eq 57, 3), (43, .aload_n 0, 1), (44, .getfield 18, 3), (47, .iload_n 1, 1), (48, .bipush 6, 2), (50, .imul, 1), (51, .iload 5, 2), (53, .iadd, 1), (54, .laload, 1), (55, .invokestatic 94, 3), (58, .istore 6, 2), (60, .iload 6, 2), (62, .iload 4, 2), (64, .if_icmp .lt 26, 3), (67, .iload 6, 2), (69, .iload 4, 2), (71, .if_icmp .ne 26, 3), (74, .aload_n 0, 1), (75, .getfield 21, 3), (78, .iload 5, 2), (80, .iaload, 1), (81, .aload_n 0, 1), (82, .getfield 21, 3), (85, .iload_n 3, 1), (86, .iaload, 1), (87, .if_icmp .le 10, 3), (90, .iload 5, 2), (92, .istore_n 3, 1), (93, .iload 6, 2), (95, .istore 4, 2), (97, .iinc 5 1, 3), (100, .goto (-73), 3), (103, .iload_n 3, 1), (104, .ireturn, 1)]
def mt_X5_leavesRoom : List (Nat × Instr × Nat) := [(0, .iconst 0, 1), (1, .istore 5, 2), (3, .iload 5, 2), (5, .bipush 6, 2), (7, .if_icmp .ge 99, 3), (10, .iload_n 2, 1), (11, .iload 5, 2), (13, .ishr, 1), (14, .iconst 1, 1), (15, .iand, 1), (16, .ifCond .eq 84, 3), (19, .iload_n 3, 1), (20, .bipush 6, 2), (22, .imul, 1), (23, .iload 5, 2), (25, .iadd, 1), (26, .istore 6, 2), (28, .aload_n 0, 1), (29, .getfield 11, 3), (32, .iload 6, 2), (34, .laload, 1), (35, .iload 4, 2), (37, .lshl, 1), (38, .aload_n 0, 1), (39, .getfield 15, 3), (42, .iload 6, 2), (44, .laload, 1), (45, .bipush 63, 2), (47, .iload 4, 2), (49, .isub, 1), (50, .lushr, 1), (51, .lor, 1), (52, .lstore 7, 2), (54, .aload_n 0, 1), (55, .getfield 18, 3), (58, .iload_n 1, 1), (59, .bipush 6, 2), (61, .imul, 1), (62, .iload 5, 2), (64, .iadd, 1), (65, .laload, 1), (66, .lload 7, 2), (68, .ldc2_w 63, 3), (71, .lxor, 1), (72, .land, 1), (73, .lstore 9, 2), (75, .lload 9, 2), (77, .lconst 0, 1), (78, .lcmp, 1), (79, .ifCond .ne 5, 3), (82, .iconst 0, 1), (83, .ireturn, 1), (84, .aload_n 0, 1), (85, .getfield 18, 3), (88, .iload_n 1, 1), (89, .iconst 1, 1), (90, .iadd, 1), (91, .bipush 6, 2), (93, .imul, 1), (94, .iload 5, 2), (96, .iadd, 1), (97, .lload 9, 2), (99, .lastore, 1), (100, .iinc 5 1, 3), (103, .goto (-100), 3), (106, .iconst 1, 1), (107, .ireturn, 1)]
def mt_X6_pond : List (Nat × Instr × Nat) := [(0, .aload_n 0, 1), (1, .iconst 0, 1), (2, .putfield 69, 3), (5, .iload_n 1, 1), (6, .invokestatic 72, 3), (9, .ifCond .ne 5, 3), (12, .iconst (-1), 1), (13, .ireturn, 1), (14, .iload_n 2, 1), (15, .invokestatic 76, 3), (18, .ifCond .ne 6, 3), (21, .bipush (-2), 2), (23, .ireturn, 1), (24, .aload_n 0, 1), (25, .getfield 13, 3), (28, .iload_n 1, 1), (29, .aaload, 1), (30, .astore 5, 2), (32, .aload 5, 2), (34, .iload_n 2, 1), (35, .invokevirtual 79, 3), (38, .ifCond .eq 9, 3), (41, .aload_n 0, 1), (42, .iconst 2, 1), (43, .invokevirtual 82, 3), (46, .ireturn, 1), (47, .aload 5, 2), (49, .getfield 86, 3), (52, .ifCond .ne 9, 3), (55, .aload_n 0, 1), (56, .iconst 1, 1), (57, .invokevirtual 82, 3), (60, .ireturn, 1), (61, .iload 4, 2), (63, .ifCond .ge 9, 3), (66, .aload_n 0, 1), (67, .iconst 4, 1), (68, .invokevirtual 82, 3), (71, .ireturn, 1), (72, .aload 5, 2), (74, .iload_n 3, 1), (75, .iload 4, 2), (77, .invokevirtual 90, 3), (80, .ifCond .ne 9, 3), (83, .aload_n 0, 1), (84, .iconst 3, 1), (85, .invokevirtual 82, 3), (88, .ireturn, 1), (89, .aload_n 0, 1), (90, .getfield 21, 3), (93, .aload 5, 2), (95, .iload_n 3, 1), (96, .iload 4, 2), (98, .invokevirtual 94, 3), (101, .istore 6, 2), (103, .iload 6, 2), (105, .iconst (-1), 1), (106, .if_icmp .eq 9, 3), (109, .bipush (-100), 2), (111, .iload 6, 2), (113, .isub, 1), (114, .ireturn, 1), (115, .aload_n 0, 1), (116, .getfield 28, 3), (119, .aload_n 0, 1), (120, .getfield 21, 3), (123, .getfield 98, 3), (126, .aload_n 0, 1), (127, .getfield 21, 3), (130, .getfield 101, 3), (133, .aload_n 0, 1), (134, .getfield 21, 3), (137, .getfield 104, 3), (140, .invokevirtual 108, 3), (143, .aload_n 0, 1), (144, .getfield 37, 3), (147, .iconst 0, 1), (148, .putfield 112, 3), (151, .aload_n 0, 1), (152, .getfield 41, 3), (155, .iconst 0, 1), (156, .putfield 112, 3), (159, .aload_n 0, 1), (160, .getfield 44, 3), (163, .iconst 0, 1), (164, .putfield 112, 3), (167, .aload_n 0, 1), (168, .getfield 57, 3), (171, .invokevirtual 115, 3), (174, .aload_n 0, 1), (175, .getfield 28, 3), (178, .getfield 118, 3), (181, .ireturn, 1)]
def mt_X6_water : List (Nat × Instr × Nat) := [(0, .aload_n 0, 1), (1, .getfield 28, 3), (4, .iload_n 1, 1), (5, .invokevirtual 121, 3), (8, .ifCond .ne 5, 3), (11, .iconst (-1), 1), (12, .ireturn, 1), (13, .aload_n 0, 1), (14, .getfield 28, 3), (17, .iload_n 1, 1), (18, .invokevirtual 124, 3), (21, .ifCond .eq 7, 3), (24, .iconst 1, 1), (25, .goto 4, 3), (28, .iconst 0, 1), (29, .ireturn, 1)]
def mt_X6_far : List (Nat × Instr × Nat) := [(0, .aload_n 0, 1), (1, .getfield 28, 3), (4, .iload_n 1, 1), (5, .invokevirtual 121, 3), (8, .ifCond .eq 14, 3), (11, .aload_n 0, 1), (12, .getfield 28, 3), (15, .iload_n 2, 1), (16, .invokevirtual 121, 3), (19, .ifCond .ne 5, 3), (22, .iconst (-1), 1), (23, .ireturn, 1), (24, .aload_n 0, 1), (25, .getfield 28, 3), (28, .iload_n 1, 1), (29, .iload_n 2, 1), (30, .invokevirtual 127, 3), (33, .ireturn, 1)]
def mt_X6_stone : List (Nat × Instr × Nat) := [(0, .aload_n 0, 1), (1, .getfield 28, 3), (4, .iload_n 2, 1), (5, .invokevirtual 121, 3), (8, .ifCond .ne 5, 3), (11, .iconst (-1), 1), (12, .ireturn, 1), (13, .iload_n 1, 1), (14, .invokestatic 131, 3), (17, .ifCond .eq 10, 3), (20, .iload_n 3, 1), (21, .invokestatic 134, 3), (24, .ifCond .ne 6, 3), (27, .bipush (-2), 2), (29, .ireturn, 1), (30, .aload_n 0, 1), (31, .getfield 28, 3), (34, .iload_n 2, 1), (35, .invokevirtual 124, 3), (38, .ifCond .ne 6, 3), (41, .bipush (-3), 2), (43, .ireturn, 1), (44, .aload_n 0, 1), (45, .getfield 37, 3), (48, .iload_n 1, 1), (49, .iload_n 2, 1), (50, .iload_n 3, 1), (51, .invokevirtual 137, 3), (54, .ireturn, 1)]
def mt_X6_ofStone : List (Nat × Instr × Nat) := [(0, .aload_n 0, 1), (1, .getfield 37, 3), (4, .iload_n 1, 1), (5, .invokevirtual 141, 3), (8, .ifCond .ne 5, 3), (11, .iconst (-1), 1), (12, .ireturn, 1), (13, .iload_n 2, 1), (14, .tableswitch 95 0 3 #[30, 40, 50, 60], 30), (44, .aload_n 0, 1), (45, .getfield 37, 3), (48, .getfield 142, 3), (51, .iload_n 1, 1), (52, .iaload, 1), (53, .ireturn, 1), (54, .aload_n 0, 1), (55, .getfield 37, 3), (58, .getfield 145, 3), (61, .iload_n 1, 1), (62, .iaload, 1), (63, .ireturn, 1), (64, .aload_n 0, 1), (65, .getfield 37, 3), (68, .getfield 148, 3), (71, .iload_n 1, 1), (72, .iaload, 1), (73, .ireturn, 1), (74, .aload_n 0, 1), (75, .getfield 37, 3), (78, .getfield 148, 3), (81, .iload_n 1, 1), (82, .iaload, 1), (83, .aload_n 0, 1), (84, .getfield 28, 3), (87, .aload_n 0, 1), (88, .getfield 37, 3), (91, .getfield 145, 3), (94, .iload_n 1, 1), (95, .iaload, 1), (96, .aload_n 0, 1), (97, .getfield 37, 3), (100, .iload_n 1, 1), (101, .invokevirtual 151, 3), (104, .invokevirtual 154, 3), (107, .iadd, 1), (108, .ireturn, 1), (109, .bipush (-2), 2), (111, .ireturn, 1)]
def mt_X6_back : List (Nat × Instr × Nat) := [(0, .aload_n 0, 1), (1, .getfield 37, 3), (4, .iload_n 1, 1), (5, .invokevirtual 157, 3), (8, .ireturn, 1)]
def mt_X6_ring : List (Nat × Instr × Nat) := [(0, .aload_n 0, 1), (1, .getfield 37, 3), (4, .iload_n 1, 1), (5, .invokevirtual 141, 3), (8, .ifCond .eq 14, 3), (11, .iload_n 2, 1), (12, .ifCond .lt 10, 3), (15, .iload_n 2, 1), (16, .sipush 999, 3), (19, .if_icmp .le 7, 3), (22, .ldc2_w 160, 3), (25, .lreturn, 1), (26, .aload_n 0, 1), (27, .getfield 28, 3), (30, .aload_n 0, 1), (31, .getfield 37, 3), (34, .getfield 145, 3), (37, .iload_n 1, 1), (38, .iaload, 1), (39, .aload_n 0, 1), (40, .getfield 37, 3), (43, .iload_n 1, 1), (44, .invokevirtual 151, 3), (47, .invokevirtual 154, 3), (50, .istore_n 3, 1), (51, .aload_n 0, 1), (52, .getfield 28, 3), (55, .aload_n 0, 1), (56, .getfield 37, 3), (59, .getfield 145, 3), (62, .iload_n 1, 1), (63, .iaload, 1), (64, .iload_n 3, 1), (65, .iload_n 2, 1), (66, .aload_n 0, 1), (67, .getfield 37, 3), (70, .getfield 148, 3), (73, .iload_n 1, 1), (74, .iaload, 1), (75, .isub, 1), (76, .invokevirtual 162, 3), (79, .lreturn, 1)]
def mt_X6_meet : List (Nat × Instr × Nat) := [(0, .aload_n 0, 1), (1, .getfield 37, 3), (4, .iload_n 1, 1), (5, .invokevirtual 141, 3), (8, .ifCond .eq 19, 3), (11, .aload_n 0, 1), (12, .getfield 37, 3), (15, .iload_n 2, 1), (16, .invokevirtual 141, 3), (19, .ifCond .eq 8, 3), (22, .iload_n 1, 1), (23, .iload_n 2, 1), (24, .if_icmp .ne 5, 3), (27, .iconst (-1), 1), (28, .ireturn, 1), (29, .iload_n 3, 1), (30, .ifCond .lt 8, 3), (33, .iload_n 3, 1), (34, .iconst 1, 1), (35, .if_icmp .le 6, 3), (38, .bipush (-2), 2), (40, .ireturn, 1), (41, .aload_n 0, 1), (42, .getfield 50, 3), (45, .aload_n 0, 1), (46, .getfield 28, 3), (49, .aload_n 0, 1), (50, .getfield 37, 3), (53, .iload_n 1, 1), (54, .iload_n 2, 1), (55, .invokevirtual 166, 3), (58, .ifCond .ne 6, 3), (61, .bipush (-9), 2), (63, .ireturn, 1), (64, .iload_n 3, 1), (65, .ifCond .ne 13, 3), (68, .aload_n 0, 1), (69, .getfield 50, 3), (72, .getfield 170, 3), (75, .goto 10, 3), (78, .aload_n 0, 1), (79, .getfield 50, 3), (82, .getfield 173, 3), (85, .ireturn, 1)]
def mt_X6_first : List (Nat × Instr × Nat) := [(0, .iload_n 1, 1), (1, .ifCond .lt 8, 3), (4, .iload_n 1, 1), (5, .iconst 2, 1), (6, .if_icmp .le 6, 3), (9, .bipush (-2), 2), (11, .ireturn, 1), (12, .bipush (-9), 2), (14, .istore_n 2, 1), (15, .bipush (-9), 2), (17, .istore_n 3, 1), (18, .bipush (-9), 2), (20, .istore 4, 2), (22, .iconst 0, 1), (23, .istore 5, 2), (25, .iload 5, 2), (27, .aload_n 0, 1), (28, .getfield 37, 3), (31, .getfield 112, 3), (34, .if_icmp .ge 89, 3), (37, .iload 5, 2), (39, .iconst 1, 1), (40, .iadd, 1), (41, .istore 6, 2), (43, .iload 6, 2), (45, .aload_n 0, 1), (46, .getfield 37, 3), (49, .getfield 112, 3), (52, .if_icmp .ge 65, 3), (55, .aload_n 0, 1), (56, .getfield 50, 3), (59, .aload_n 0, 1), (60, .getfield 28, 3), (63, .aload_n 0, 1), (64, .getfield 37, 3), (67, .iload 5, 2), (69, .iload 6, 2), (71, .invokevirtual 166, 3), (74, .ifCond .eq 37, 3), (77, .iload 4, 2), (79, .bipush (-9), 2), (81, .if_icmp .eq 15, 3), (84, .aload_n 0, 1), (85, .getfield 50, 3), (88, .getfield 170, 3), (91, .iload 4, 2), (93, .if_icmp .ge 18, 3), (96, .iload 5, 2), (98, .istore_n 2, 1), (99, .iload 6, 2), (101, .istore_n 3, 1), (102, .aload_n 0, 1), (103, .getfield 50, 3), (106, .getfield 170, 3), (109, .istore 4, 2), (111, .iinc 6 1, 3), (114, .goto (-71), 3), (117, .iinc 5 1, 3), (120, .goto (-95), 3), (123, .iload_n 1, 1), (124, .ifCond .ne 5, 3), (127, .iload_n 2, 1), (128, .ireturn, 1), (129, .iload_n 1, 1), (130, .iconst 1, 1), (131, .if_icmp .ne 7, 3), (134, .iload_n 3, 1), (135, .goto 5, 3), (138, .iload 4, 2), (140, .ireturn, 1)]
def mt_X6_wish : List (Nat × Instr × Nat) := [(0, .aload_n 0, 1), (1, .getfield 28, 3), (4, .iload_n 2, 1), (5, .invokevirtual 121, 3), (8, .ifCond .ne 5, 3), (11, .iconst (-1), 1), (12, .ireturn, 1), (13, .iload_n 1, 1), (14, .invokestatic 131, 3), (17, .ifCond .ne 6, 3), (20, .bipush (-2), 2), (22, .ireturn, 1), (23, .aload_n 0, 1), (24, .getfield 28, 3), (27, .iload_n 2, 1), (28, .invokevirtual 124, 3), (31, .ifCond .ne 6, 3), (34, .bipush (-3), 2), (36, .ireturn, 1), (37, .aload_n 0, 1), (38, .getfield 41, 3), (41, .iload_n 1, 1), (42, .iload_n 2, 1), (43, .iconst 0, 1), (44, .invokevirtual 137, 3), (47, .istore_n 3, 1), (48, .iload_n 3, 1), (49, .ifCond .lt 23, 3), (52, .aload_n 0, 1), (53, .getfield 57, 3), (56, .iload_n 3, 1), (57, .aload_n 0, 1), (58, .getfield 28, 3), (61, .aload_n 0, 1), (62, .getfield 41, 3), (65, .aload_n 0, 1), (66, .getfield 50, 3), (69, .invokevirtual 176, 3), (72, .iload_n 3, 1), (73, .ireturn, 1)]
def mt_X6_ofWish : List (Nat × Instr × Nat) := [(0, .aload_n 0, 1), (1, .getfield 41, 3), (4, .iload_n 1, 1), (5, .invokevirtual 141, 3), (8, .ifCond .ne 5, 3), (11, .iconst (-1), 1), (12, .ireturn, 1), (13, .iload_n 2, 1), (14, .ifCond .ne 13, 3), (17, .aload_n 0, 1), (18, .getfield 41, 3), (21, .getfield 142, 3), (24, .iload_n 1, 1), (25, .iaload, 1), (26, .ireturn, 1), (27, .iload_n 2, 1), (28, .iconst 1, 1), (29, .if_icmp .ne 15, 3), (32, .aload_n 0, 1), (33, .getfield 41, 3), (36, .getfield 145, 3), (39, .iload_n 1, 1), (40, .iaload, 1), (41, .goto 5, 3), (44, .bipush (-2), 2), (46, .ireturn, 1)]
def mt_X6_drop : List (Nat × Instr × Nat) := [(0, .aload_n 0, 1), (1, .getfield 41, 3), (4, .iload_n 1, 1), (5, .invokevirtual 157, 3), (8, .istore_n 2, 1), (9, .iload_n 2, 1), (10, .ifCond .lt 10, 3), (13, .aload_n 0, 1), (14, .getfield 57, 3), (17, .invokevirtual 115, 3), (20, .iload_n 2, 1), (21, .ireturn, 1)]
def mt_X6_apart : List (Nat × Instr × Nat) := [(0, .aload_n 0, 1), (1, .getfield 41, 3), (4, .iload_n 1, 1), (5, .invokevirtual 141, 3), (8, .ifCond .eq 19, 3), (11, .aload_n 0, 1), (12, .getfield 41, 3), (15, .iload_n 2, 1), (16, .invokevirtual 141, 3), (19, .ifCond .eq 8, 3), (22, .iload_n 1, 1), (23, .iload_n 2, 1), (24, .if_icmp .ne 5, 3), (27, .iconst (-1), 1), (28, .ireturn, 1), (29, .aload_n 0, 1), (30, .getfield 57, 3), (33, .iload_n 1, 1), (34, .iload_n 2, 1), (35, .invokevirtual 180, 3), (38, .ireturn, 1)]
def mt_X6_atOnce : List (Nat × Instr × Nat) := [(0, .aload_n 0, 1), (1, .invokevirtual 183, 3), (4, .ireturn, 1)]
def mt_X6_soonest : List (Nat × Instr × Nat) := [(0, .iload_n 1, 1), (1, .iconst (-1), 1), (2, .if_icmp .eq 16, 3), (5, .aload_n 0, 1), (6, .getfield 41, 3), (9, .iload_n 1, 1), (10, .invokevirtual 141, 3), (13, .ifCond .ne 5, 3), (16, .iconst (-1), 1), (17, .ireturn, 1), (18, .aload_n 0, 1), (19, .getfield 41, 3), (22, .getfield 112, 3), (25, .ifCond .ne 6, 3), (28, .bipush (-9), 2), (30, .ireturn, 1), (31, .aload_n 0, 1), (32, .getfield 57, 3), (35, .aload_n 0, 1), (36, .getfield 41, 3), (39, .getfield 112, 3), (42, .invokevirtual 187, 3), (45, .iload_n 1, 1), (46, .iconst (-1), 1), (47, .if_icmp .ne 13, 3), (50, .aload_n 0, 1), (51, .getfield 57, 3), (54, .getfield 190, 3), (57, .goto 12, 3), (60, .aload_n 0, 1), (61, .getfield 57, 3), (64, .getfield 193, 3), (67, .iload_n 1, 1), (68, .iaload, 1), (69, .ireturn, 1)]
def mt_X6_alone : List (Nat × Instr × Nat) := [(0, .iload_n 1, 1), (1, .iconst (-1), 1), (2, .if_icmp .eq 16, 3), (5, .aload_n 0, 1), (6, .getfield 41, 3), (9, .iload_n 1, 1), (10, .invokevirtual 141, 3), (13, .ifCond .ne 5, 3), (16, .iconst (-1), 1), (17, .ireturn, 1), (18, .aload_n 0, 1), (19, .getfield 41, 3), (22, .getfield 112, 3), (25, .ifCond .ne 6, 3), (28, .bipush (-9), 2), (30, .ireturn, 1), (31, .aload_n 0, 1), (32, .getfield 57, 3), (35, .aload_n 0, 1), (36, .getfield 41, 3), (39, .getfield 112, 3), (42, .invokevirtual 196, 3), (45, .istore_n 2, 1), (46, .iload_n 1, 1), (47, .iconst (-1), 1), (48, .if_icmp .ne 7, 3), (51, .iload_n 2, 1), (52, .goto 12, 3), (55, .aload_n 0, 1), (56, .getfield 57, 3), (59, .getfield 199, 3), (62, .iload_n 1, 1), (63, .iaload, 1), (64, .ireturn, 1)]
def mt_X6_sunset : List (Nat × Instr × Nat) := [(0, .iload_n 1, 1), (1, .ifCond .lt 9, 3), (4, .iload_n 1, 1), (5, .bipush 20, 2), (7, .if_icmp .le 6, 3), (10, .bipush (-2), 2), (12, .ireturn, 1), (13, .aload_n 0, 1), (14, .getfield 57, 3), (17, .iload_n 1, 1), (18, .aload_n 0, 1), (19, .getfield 41, 3), (22, .getfield 112, 3), (25, .invokevirtual 200, 3), (28, .ireturn, 1)]
def mt_X6_reed : List (Nat × Instr × Nat) := [(0, .aload_n 0, 1), (1, .getfield 28, 3), (4, .iload_n 1, 1), (5, .invokevirtual 121, 3), (8, .ifCond .ne 5, 3), (11, .iconst (-1), 1), (12, .ireturn, 1), (13, .iload_n 2, 1), (14, .invokestatic 134, 3), (17, .ifCond .ne 6, 3), (20, .bipush (-2), 2), (22, .ireturn, 1), (23, .aload_n 0, 1), (24, .getfield 28, 3), (27, .iload_n 1, 1), (28, .invokevirtual 124, 3), (31, .ifCond .ne 6, 3), (34, .bipush (-3), 2), (36, .ireturn, 1), (37, .aload_n 0, 1), (38, .getfield 44, 3), (41, .iconst 0, 1), (42, .iload_n 1, 1), (43, .iload_n 2, 1), (44, .invokevirtual 137, 3), (47, .ireturn, 1)]
def mt_X6_pull : List (Nat × Instr × Nat) := [(0, .aload_n 0, 1), (1, .getfield 44, 3), (4, .iload_n 1, 1), (5, .invokevirtual 157, 3), (8, .ireturn, 1)]
def mt_X6_fits : List (Nat × Instr × Nat) := [(0, .iload_n 1, 1), (1, .invokestatic 131, 3), (4, .ifCond .ne 6, 3), (7, .bipush (-2), 2), (9, .ireturn, 1), (10, .iload_n 2, 1), (11, .iconst (-1), 1), (12, .if_icmp .ge 5, 3), (15, .iconst (-1), 1), (16, .ireturn, 1), (17, .iconst 0, 1), (18, .istore_n 3, 1), (19, .iconst 0, 1), (20, .istore 4, 2), (22, .iload 4, 2), (24, .aload_n 0, 1), (25, .getfield 28, 3), (28, .getfield 118, 3), (31, .if_icmp .ge 53, 3), (34, .aload_n 0, 1), (35, .iload_n 1, 1), (36, .iload 4, 2), (38, .invokevirtual 203, 3), (41, .istore 5, 2), (43, .iload_n 2, 1), (44, .iload_n 3, 1), (45, .if_icmp .lt 28, 3), (48, .iload_n 2, 1), (49, .iload_n 3, 1), (50, .iload 5, 2), (52, .iadd, 1), (53, .if_icmp .ge 20, 3), (56, .bipush 100, 2), (58, .iload 4, 2), (60, .imul, 1), (61, .aload_n 0, 1), (62, .iload 4, 2), (64, .invokevirtual 206, 3), (67, .iadd, 1), (68, .iload_n 2, 1), (69, .iadd, 1), (70, .iload_n 3, 1), (71, .isub, 1), (72, .ireturn, 1), (73, .iload_n 3, 1), (74, .iload 5, 2), (76, .iadd, 1), (77, .istore_n 3, 1), (78, .iinc 4 1, 3), (81, .goto (-59), 3), (84, .iload_n 2, 1), (85, .iconst (-1), 1), (86, .if_icmp .ne 7, 3), (89, .iload_n 3, 1), (90, .goto 5, 3), (93, .bipush (-9), 2), (95, .ireturn, 1)]
def mt_X6_dig : List (Nat × Instr × Nat) := [(0, .iload_n 1, 1), (1, .ifCond .lt 8, 3), (4, .iload_n 1, 1), (5, .iconst 1, 1), (6, .if_icmp .le 6, 3), (9, .bipush (-2), 2), (11, .ireturn, 1), (12, .aload_n 0, 1), (13, .invokevirtual 183, 3), (16, .invokestatic 209, 3), (19, .istore_n 2, 1), (20, .bipush (-9), 2), (22, .istore_n 3, 1), (23, .iconst 0, 1), (24, .istore 4, 2), (26, .iload 4, 2), (28, .aload_n 0, 1), (29, .getfield 28, 3), (32, .getfield 118, 3), (35, .if_icmp .ge 52, 3), (38, .iload_n 2, 1), (39, .aload_n 0, 1), (40, .getfield 41, 3), (43, .getfield 112, 3), (46, .if_icmp .ge 41, 3), (49, .aload_n 0, 1), (50, .getfield 28, 3), (53, .iload 4, 2), (55, .invokevirtual 124, 3), (58, .ifCond .ne 23, 3), (61, .aload_n 0, 1), (62, .iload 4, 2), (64, .invokevirtual 214, 3), (67, .istore 5, 2), (69, .iload 5, 2), (71, .iload_n 2, 1), (72, .if_icmp .le 9, 3), (75, .iload 5, 2), (77, .istore_n 2, 1), (78, .iload 4, 2), (80, .istore_n 3, 1), (81, .iinc 4 1, 3), (84, .goto (-58), 3), (87, .iload_n 1, 1), (88, .ifCond .ne 7, 3), (91, .iload_n 3, 1), (92, .goto 4, 3), (95, .iload_n 2, 1), (96, .ireturn, 1)]
def mt_X6_sheet : List (Nat × Instr × Nat) := [(0, .aload_n 0, 1), (1, .iconst 0, 1), (2, .putfield 69, 3), (5, .iload_n 1, 1), (6, .invokestatic 72, 3), (9, .ifCond .ne 5, 3), (12, .iconst (-1), 1), (13, .ireturn, 1), (14, .iload_n 2, 1), (15, .invokestatic 76, 3), (18, .ifCond .eq 9, 3), (21, .iload_n 3, 1), (22, .bipush 60, 2), (24, .if_icmp .le 6, 3), (27, .bipush (-2), 2), (29, .ireturn, 1), (30, .iload_n 3, 1), (31, .ifCond .ge 9, 3), (34, .aload_n 0, 1), (35, .iconst 4, 1), (36, .invokevirtual 82, 3), (39, .ireturn, 1), (40, .aload_n 0, 1), (41, .getfield 13, 3), (44, .iload_n 1, 1), (45, .aaload, 1), (46, .iload_n 2, 1), (47, .iload_n 3, 1), (48, .invokevirtual 217, 3), (51, .iconst 1, 1), (52, .ireturn, 1)]
def mt_X6_lose : List (Nat × Instr × Nat) := [(0, .iload_n 1, 1), (1, .invokestatic 72, 3), (4, .ifCond .ne 5, 3), (7, .iconst (-1), 1), (8, .ireturn, 1), (9, .aload_n 0, 1), (10, .getfield 13, 3), (13, .iload_n 1, 1), (14, .aaload, 1), (15, .getfield 86, 3), (18, .ifCond .eq 7, 3), (21, .iconst 1, 1), (22, .goto 4, 3), (25, .iconst 0, 1), (26, .istore_n 2, 1), (27, .aload_n 0, 1), (28, .getfield 13, 3), (31, .iload_n 1, 1), (32, .aaload, 1), (33, .iconst 0, 1), (34, .putfield 86, 3), (37, .iload_n 2, 1), (38, .ireturn, 1)]
def mt_X6_put : List (Nat × Instr × Nat) := [(0, .aload_n 0, 1), (1, .iconst 0, 1), (2, .putfield 69, 3), (5, .iload_n 1, 1), (6, .invokestatic 72, 3), (9, .ifCond .ne 5, 3), (12, .iconst (-1), 1), (13, .ireturn, 1), (14, .aload_n 0, 1), (15, .getfield 13, 3), (18, .iload_n 1, 1), (19, .aaload, 1), (20, .getfield 86, 3), (23, .ifCond .ne 9, 3), (26, .aload_n 0, 1), (27, .iconst 1, 1), (28, .invokevirtual 82, 3), (31, .ireturn, 1), (32, .aload_n 0, 1), (33, .getfield 13, 3), (36, .iload_n 1, 1), (37, .aaload, 1), (38, .iload_n 2, 1), (39, .iconst 1, 1), (40, .invokevirtual 90, 3), (43, .ifCond .ne 9, 3), (46, .aload_n 0, 1), (47, .iconst 3, 1), (48, .invokevirtual 82, 3), (51, .ireturn, 1), (52, .aload_n 0, 1), (53, .getfield 13, 3), (56, .iload_n 1, 1), (57, .aaload, 1), (58, .iload_n 2, 1), (59, .iload_n 3, 1), (60, .invokevirtual 221, 3), (63, .iconst 1, 1), (64, .ireturn, 1)]
def mt_X6_cell : List (Nat × Instr × Nat) := [(0, .aload_n 0, 1), (1, .iconst 0, 1), (2, .putfield 69, 3), (5, .iload_n 1, 1), (6, .invokestatic 72, 3), (9, .ifCond .eq 10, 3), (12, .iload_n 3, 1), (13, .invokestatic 76, 3), (16, .ifCond .ne 7, 3), (19, .ldc2_w 160, 3), (22, .lreturn, 1), (23, .aload_n 0, 1), (24, .getfield 13, 3), (27, .iload_n 1, 1), (28, .aaload, 1), (29, .astore 4, 2), (31, .aload 4, 2), (33, .iload_n 3, 1), (34, .invokevirtual 79, 3), (37, .ifCond .eq 12, 3), (40, .aload_n 0, 1), (41, .iconst 2, 1), (42, .putfield 69, 3), (45, .ldc2_w 160, 3), (48, .lreturn, 1), (49, .aload 4, 2), (51, .getfield 86, 3), (54, .ifCond .ne 12, 3), (57, .aload_n 0, 1), (58, .iconst 1, 1), (59, .putfield 69, 3), (62, .ldc2_w 160, 3), (65, .lreturn, 1), (66, .aload 4, 2), (68, .iload_n 2, 1), (69, .iconst 1, 1), (70, .invokevirtual 90, 3), (73, .ifCond .ne 12, 3), (76, .aload_n 0, 1), (77, .iconst 3, 1), (78, .putfield 69, 3), (81, .ldc2_w 160, 3), (84, .lreturn, 1), (85, .aload 4, 2), (87, .getfield 224, 3), (90, .iload_n 2, 1), (91, .iaload, 1), (92, .i2l, 1), (93, .lreturn, 1)]
def mt_X6_copy : List (Nat × Instr × Nat) := [(0, .aload_n 0, 1), (1, .iconst 0, 1), (2, .putfield 69, 3), (5, .iload_n 1, 1), (6, .invokestatic 72, 3), (9, .ifCond .eq 10, 3), (12, .iload_n 3, 1), (13, .invokestatic 72, 3), (16, .ifCond .ne 5, 3), (19, .iconst (-1), 1), (20, .ireturn, 1), (21, .aload_n 0, 1), (22, .getfield 13, 3), (25, .iload_n 1, 1), (26, .aaload, 1), (27, .astore 6, 2), (29, .aload_n 0, 1), (30, .getfield 13, 3), (33, .iload_n 3, 1), (34, .aaload, 1), (35, .astore 7, 2), (37, .aload 6, 2), (39, .getfield 86, 3), (42, .ifCond .eq 11, 3), (45, .aload 7, 2), (47, .getfield 86, 3), (50, .ifCond .ne 9, 3), (53, .aload_n 0, 1), (54, .iconst 1, 1), (55, .invokevirtual 82, 3), (58, .ireturn, 1), (59, .aload 7, 2), (61, .aload 6, 2), (63, .getfield 227, 3), (66, .invokevirtual 79, 3), (69, .ifCond .eq 9, 3), (72, .aload_n 0, 1), (73, .iconst 2, 1), (74, .invokevirtual 82, 3), (77, .ireturn, 1), (78, .aload 6, 2), (80, .iload_n 2, 1), (81, .iload 5, 2), (83, .invokevirtual 90, 3), (86, .ifCond .eq 15, 3), (89, .aload 7, 2), (91, .iload 4, 2), (93, .iload 5, 2), (95, .invokevirtual 90, 3), (98, .ifCond .ne 9, 3), (101, .aload_n 0, 1), (102, .iconst 3, 1), (103, .invokevirtual 82, 3), (106, .ireturn, 1), (107, .aload 6, 2), (109, .getfield 224, 3), (112, .iload_n 2, 1), (113, .aload 7, 2), (115, .getfield 224, 3), (118, .iload 4, 2), (120, .iload 5, 2), (122, .invokestatic 230, 3), (125, .iload 5, 2), (127, .ireturn, 1)]
def mt_X6_tell : List (Nat × Instr × Nat) := [(0, .aload_n 0, 1), (1, .getfield 41, 3), (4, .iload_n 1, 1), (5, .invokevirtual 141, 3), (8, .ifCond .ne 5, 3), (11, .iconst (-1), 1), (12, .ireturn, 1), (13, .aload_n 0, 1), (14, .getfield 41, 3), (17, .getfield 145, 3), (20, .iload_n 1, 1), (21, .iaload, 1), (22, .istore_n 2, 1), (23, .aload_n 0, 1), (24, .getfield 41, 3), (27, .getfield 142, 3), (30, .iload_n 1, 1), (31, .iaload, 1), (32, .lookupswitch 40 #[(1, 34), (2, 28)], 28), (60, .aload_n 0, 1), (61, .iload_n 2, 1), (62, .invokevirtual 236, 3), (65, .ireturn, 1), (66, .aload_n 0, 1), (67, .iload_n 2, 1), (68, .invokevirtual 239, 3), (71, .ireturn, 1), (72, .aload_n 0, 1), (73, .iload_n 2, 1), (74, .invokevirtual 242, 3), (77, .ireturn, 1)]
def mt_X6_make : List (Nat × Instr × Nat) := [(0, .aload_n 0, 1), (1, .getfield 41, 3), (4, .iload_n 1, 1), (5, .invokevirtual 141, 3), (8, .ifCond .ne 5, 3), (11, .iconst (-1), 1), (12, .ireturn, 1), (13, .aload_n 0, 1), (14, .getfield 41, 3), (17, .getfield 142, 3), (20, .iload_n 1, 1), (21, .iaload, 1), (22, .iconst 2, 1), (23, .if_icmp .ne 10, 3), (26, .aload_n 0, 1), (27, .invokevirtual 245, 3), (30, .goto 8, 3), (33, .aload_n 0, 1), (34, .iload_n 1, 1), (35, .invokevirtual 248, 3), (38, .ireturn, 1)]
def mt_X6_as : List (Nat × Instr × Nat) := [(0, .aload_n 0, 1), (1, .iconst 0, 1), (2, .putfield 69, 3), (5, .aload_n 0, 1), (6, .getfield 41, 3), (9, .iload_n 1, 1), (10, .invokevirtual 141, 3), (13, .ifCond .ne 5, 3), (16, .iconst (-1), 1), (17, .ireturn, 1), (18, .iload_n 2, 1), (19, .invokestatic 131, 3), (22, .ifCond .ne 6, 3), (25, .bipush (-2), 2), (27, .ireturn, 1), (28, .aload_n 0, 1), (29, .getfield 41, 3), (32, .getfield 142, 3), (35, .iload_n 1, 1), (36, .iaload, 1), (37, .iload_n 2, 1), (38, .if_icmp .lt 7, 3), (41, .iconst 1, 1), (42, .goto 8, 3), (45, .aload_n 0, 1), (46, .iconst 2, 1), (47, .invokevirtual 82, 3), (50, .ireturn, 1)]
def mt_X6_trace : List (Nat × Instr × Nat) := [(0, .aload_n 0, 1), (1, .getfield 65, 3), (4, .ireturn, 1)]
def mt_X6_fault : List (Nat × Instr × Nat) := [(0, .aload_n 0, 1), (1, .getfield 69, 3), (4, .ireturn, 1)]
def mt_X6_many : List (Nat × Instr × Nat) := [(0, .iload_n 1, 1), (1, .tableswitch 75 0 4 #[35, 43, 51, 59, 67], 35), (36, .aload_n 0, 1), (37, .getfield 28, 3), (40, .getfield 118, 3), (43, .ireturn, 1), (44, .aload_n 0, 1), (45, .getfield 28, 3), (48, .getfield 251, 3), (51, .ireturn, 1), (52, .aload_n 0, 1), (53, .getfield 37, 3), (56, .getfield 112, 3), (59, .ireturn, 1), (60, .aload_n 0, 1), (61, .getfield 41, 3), (64, .getfield 112, 3), (67, .ireturn, 1), (68, .aload_n 0, 1), (69, .getfield 44, 3), (72, .getfield 112, 3), (75, .ireturn, 1), (76, .bipush (-2), 2), (78, .ireturn, 1)]
def mt_X6_faulty : List (Nat × Instr × Nat) := [(0, .aload_n 0, 1), (1, .iload_n 1, 1), (2, .putfield 69, 3), (5, .bipush (-10), 2), (7, .iload_n 1, 1), (8, .isub, 1), (9, .ireturn, 1)]
def mt_X6_isSheet : List (Nat × Instr × Nat) := [(0, .iload_n 0, 1), (1, .ifCond .lt 12, 3), (4, .iload_n 0, 1), (5, .iconst 4, 1), (6, .if_icmp .ge 7, 3), (9, .iconst 1, 1), (10, .goto 4, 3), (13, .iconst 0, 1), (14, .ireturn, 1)]
def mt_X6_isSort : List (Nat × Instr × Nat) := [(0, .iload_n 0, 1), (1, .ifCond .lt 12, 3), (4, .iload_n 0, 1), (5, .iconst 3, 1), (6, .if_icmp .ge 7, 3), (9, .iconst 1, 1), (10, .goto 4, 3), (13, .iconst 0, 1), (14, .ireturn, 1)]
def mt_X6_isKind : List (Nat × Instr × Nat) := [(0, .iload_n 0, 1), (1, .ifCond .lt 12, 3), (4, .iload_n 0, 1), (5, .iconst 3, 1), (6, .if_icmp .ge 7, 3), (9, .iconst 1, 1), (10, .goto 4, 3), (13, .iconst 0, 1), (14, .ireturn, 1)]
def mt_X6_isMinute : List (Nat × Instr × Nat) := [(0, .iload_n 0, 1), (1, .ifCond .lt 13, 3), (4, .iload_n 0, 1), (5, .bipush 99, 2), (7, .if_icmp .gt 7, 3), (10, .iconst 1, 1), (11, .goto 4, 3), (14, .iconst 0, 1), (15, .ireturn, 1)]
def mt_X6_lowestBit : List (Nat × Instr × Nat) := [(0, .lload_n 0, 1), (1, .lload_n 0, 1), (2, .lneg, 1), (3, .land, 1), (4, .lconst 1, 1), (5, .lsub, 1), (6, .invokestatic 252, 3), (9, .ireturn, 1)]
def mt_X6_fitsInCell : List (Nat × Instr × Nat) := [(0, .aload_n 0, 1), (1, .getfield 28, 3), (4, .iload_n 2, 1), (5, .invokevirtual 124, 3), (8, .ifCond .ne 5, 3), (11, .iconst 0, 1), (12, .ireturn, 1), (13, .aload_n 0, 1), (14, .getfield 44, 3), (17, .getfield 112, 3), (20, .ifCond .ne 6, 3), (23, .bipush 100, 2), (25, .ireturn, 1), (26, .aload_n 0, 1), (27, .iload_n 2, 1), (28, .invokevirtual 206, 3), (31, .istore_n 3, 1), (32, .iconst 0, 1), (33, .istore 4, 2), (35, .iload 4, 2), (37, .aload_n 0, 1), (38, .getfield 44, 3), (41, .getfield 112, 3), (44, .if_icmp .ge 65, 3), (47, .aload_n 0, 1), (48, .getfield 28, 3), (51, .iload_n 2, 1), (52, .aload_n 0, 1), (53, .getfield 44, 3), (56, .getfield 145, 3), (59, .iload 4, 2), (61, .iaload, 1), (62, .invokevirtual 127, 3), (65, .istore 5, 2), (67, .iload 5, 2), (69, .bipush (-9), 2), (71, .if_icmp .eq 30, 3), (74, .iload 5, 2), (76, .getstatic 255, 3), (79, .iload_n 1, 1), (80, .iaload, 1), (81, .if_icmp .gt 20, 3), (84, .iload 5, 2), (86, .aload_n 0, 1), (87, .getfield 44, 3), (90, .getfield 148, 3), (93, .iload 4, 2), (95, .iaload, 1), (96, .iload_n 3, 1), (97, .isub, 1), (98, .if_icmp .eq 5, 3), (101, .iconst 0, 1), (102, .ireturn, 1), (103, .iinc 4 1, 3), (106, .goto (-71), 3), (109, .iload_n 3, 1), (110, .ifCond .lt 7, 3), (113, .iconst 1, 1), (114, .goto 4, 3), (117, .iconst 0, 1), (118, .ireturn, 1)]
def mt_X6_firstFit : List (Nat × Instr × Nat) := [(0, .aload_n 0, 1), (1, .getfield 44, 3), (4, .getfield 112, 3), (7, .ifCond .ne 5, 3), (10, .iconst 0, 1), (11, .ireturn, 1), (12, .aload_n 0, 1), (13, .getfield 44, 3), (16, .getfield 148, 3), (19, .iconst 0, 1), (20, .iaload, 1), (21, .aload_n 0, 1), (22, .getfield 28, 3), (25, .iload_n 1, 1), (26, .aload_n 0, 1), (27, .getfield 44, 3), (30, .getfield 145, 3), (33, .iconst 0, 1), (34, .iaload, 1), (35, .invokevirtual 127, 3), (38, .isub, 1), (39, .ireturn, 1)]
def mt_X6_mostTogetherIfDug : List (Nat × Instr × Nat) := [(0, .aload_n 0, 1), (1, .getfield 28, 3), (4, .getfield 258, 3), (7, .lstore_n 2, 1), (8, .aload_n 0, 1), (9, .getfield 28, 3), (12, .lload_n 2, 1), (13, .lconst 1, 1), (14, .iload_n 1, 1), (15, .lshl, 1), (16, .lor, 1), (17, .invokevirtual 259, 3), (20, .aload_n 0, 1), (21, .invokevirtual 183, 3), (24, .invokestatic 209, 3), (27, .istore 4, 2), (29, .aload_n 0, 1), (30, .getfield 28, 3), (33, .lload_n 2, 1), (34, .invokevirtual 259, 3), (37, .iload 4, 2), (39, .ireturn, 1)]
def mt_X6_mostTogether : List (Nat × Instr × Nat) := [(0, .aload_n 0, 1), (1, .invokevirtual 263, 3), (4, .iconst 0, 1), (5, .istore_n 1, 1), (6, .iconst 1, 1), (7, .istore_n 2, 1), (8, .iload_n 2, 1), (9, .iconst 1, 1), (10, .aload_n 0, 1), (11, .getfield 41, 3), (14, .getfield 112, 3), (17, .ishl, 1), (18, .if_icmp .ge 30, 3), (21, .iload_n 2, 1), (22, .invokestatic 209, 3), (25, .iload_n 1, 1), (26, .invokestatic 209, 3), (29, .if_icmp .le 13, 3), (32, .aload_n 0, 1), (33, .iload_n 2, 1), (34, .invokevirtual 266, 3), (37, .ifCond .eq 5, 3), (40, .iload_n 2, 1), (41, .istore_n 1, 1), (42, .iinc 2 1, 3), (45, .goto (-37), 3), (48, .iload_n 1, 1), (49, .ireturn, 1)]
def mt_X6_findClashes : List (Nat × Instr × Nat) := [(0, .aload_n 0, 1), (1, .getfield 61, 3), (4, .iconst 0, 1), (5, .invokestatic 269, 3), (8, .iconst 0, 1), (9, .istore_n 1, 1), (10, .iload_n 1, 1), (11, .aload_n 0, 1), (12, .getfield 41, 3), (15, .getfield 112, 3), (18, .if_icmp .ge 63, 3), (21, .iload_n 1, 1), (22, .iconst 1, 1), (23, .iadd, 1), (24, .istore_n 2, 1), (25, .iload_n 2, 1), (26, .aload_n 0, 1), (27, .getfield 41, 3), (30, .getfield 112, 3), (33, .if_icmp .ge 42, 3), (36, .aload_n 0, 1), (37, .getfield 50, 3), (40, .aload_n 0, 1), (41, .getfield 28, 3), (44, .aload_n 0, 1), (45, .getfield 41, 3), (48, .iload_n 1, 1), (49, .iload_n 2, 1), (50, .iconst 0, 1), (51, .invokevirtual 275, 3), (54, .ifCond .eq 15, 3), (57, .aload_n 0, 1), (58, .getfield 61, 3), (61, .iload_n 2, 1), (62, .dup2, 1), (63, .iaload, 1), (64, .iconst 1, 1), (65, .iload_n 1, 1), (66, .ishl, 1), (67, .ior, 1), (68, .iastore, 1), (69, .iinc 2 1, 3), (72, .goto (-47), 3), (75, .iinc 1 1, 3), (78, .goto (-68), 3), (81, .return_, 1)]
def mt_X6_isPeaceful : List (Nat × Instr × Nat) := [(0, .iconst 0, 1), (1, .istore_n 2, 1), (2, .iload_n 2, 1), (3, .aload_n 0, 1), (4, .getfield 41, 3), (7, .getfield 112, 3), (10, .if_icmp .ge 30, 3), (13, .iload_n 1, 1), (14, .iload_n 2, 1), (15, .ishr, 1), (16, .iconst 1, 1), (17, .iand, 1), (18, .ifCond .eq 16, 3), (21, .iload_n 1, 1), (22, .aload_n 0, 1), (23, .getfield 61, 3), (26, .iload_n 2, 1), (27, .iaload, 1), (28, .iand, 1), (29, .ifCond .eq 5, 3), (32, .iconst 0, 1), (33, .ireturn, 1), (34, .iinc 2 1, 3), (37, .goto (-35), 3), (40, .iconst 1, 1), (41, .ireturn, 1)]
def mt_X6_leave : List (Nat × Instr × Nat) := [(0, .aload_n 0, 1), (1, .bipush 31, 2), (3, .aload_n 0, 1), (4, .getfield 65, 3), (7, .imul, 1), (8, .iload_n 1, 1), (9, .iadd, 1), (10, .putfield 65, 3), (13, .return_, 1)]
def mt_X6_stoneTells : List (Nat × Instr × Nat) := [(0, .aload_n 0, 1), (1, .iconst 1, 1), (2, .invokevirtual 279, 3), (5, .iload_n 1, 1), (6, .ireturn, 1)]
def mt_X6_pebbleTells : List (Nat × Instr × Nat) := [(0, .aload_n 0, 1), (1, .iconst 2, 1), (2, .invokevirtual 279, 3), (5, .aload_n 0, 1), (6, .iload_n 1, 1), (7, .invokevirtual 242, 3), (10, .bipush 100, 2), (12, .iadd, 1), (13, .ireturn, 1)]
def mt_X6_grainTells : List (Nat × Instr × Nat) := [(0, .aload_n 0, 1), (1, .iconst 3, 1), (2, .invokevirtual 279, 3), (5, .aload_n 0, 1), (6, .iload_n 1, 1), (7, .invokevirtual 239, 3), (10, .istore_n 2, 1), (11, .iload_n 2, 1), (12, .aload_n 0, 1), (13, .iload_n 1, 1), (14, .invokevirtual 242, 3), (17, .iadd, 1), (18, .ireturn, 1)]
def mt_X6_lentMakes : List (Nat × Instr × Nat) := [(0, .aload_n 0, 1), (1, .iconst 4, 1), (2, .invokevirtual 279, 3), (5, .iload_n 1, 1), (6, .ireturn, 1)]
def mt_X6_grainMakes : List (Nat × Instr × Nat) := [(0, .aload_n 0, 1), (1, .iconst 5, 1), (2, .invokevirtual 279, 3), (5, .bipush 80, 2), (7, .ireturn, 1)]
def mt_X7_fails : List (Nat × Instr × Nat) := [(0, .aload_n 0, 1), (1, .iload_n 1, 1), (2, .putfield 56, 3), (5, .bipush (-10), 2), (7, .iload_n 1, 1), (8, .isub, 1), (9, .ireturn, 1)]
def mt_X7_lost : List (Nat × Instr × Nat) := [(0, .aload_n 0, 1), (1, .iload_n 1, 1), (2, .putfield 56, 3), (5, .ldc2_w 60, 3), (8, .lreturn, 1)]
def mt_X7_within : List (Nat × Instr × Nat) := [(0, .iload_n 0, 1), (1, .iload_n 1, 1), (2, .if_icmp .lt 12, 3), (5, .iload_n 0, 1), (6, .iload_n 2, 1), (7, .if_icmp .gt 7, 3), (10, .iconst 1, 1), (11, .goto 4, 3), (14, .iconst 0, 1), (15, .ireturn, 1)]
def mt_X7_isSheet : List (Nat × Instr × Nat) := [(0, .iload_n 0, 1), (1, .iconst 0, 1), (2, .iconst 3, 1), (3, .invokestatic 62, 3), (6, .ireturn, 1)]
def mt_X7_isSort : List (Nat × Instr × Nat) := [(0, .iload_n 0, 1), (1, .iconst 0, 1), (2, .iconst 2, 1), (3, .invokestatic 62, 3), (6, .ireturn, 1)]
def mt_X7_against : List (Nat × Instr × Nat) := [(0, .aload_n 0, 1), (1, .getfield 9, 3), (4, .iload_n 1, 1), (5, .iaload, 1), (6, .bipush (-9), 2), (8, .if_icmp .eq 15, 3), (11, .aload_n 0, 1), (12, .getfield 9, 3), (15, .iload_n 1, 1), (16, .iaload, 1), (17, .iload_n 2, 1), (18, .if_icmp .eq 5, 3), (21, .iconst 2, 1), (22, .ireturn, 1), (23, .aload_n 0, 1), (24, .getfield 9, 3), (27, .iload_n 1, 1), (28, .iaload, 1), (29, .bipush (-9), 2), (31, .if_icmp .ne 5, 3), (34, .iconst 1, 1), (35, .ireturn, 1), (36, .iload 4, 2), (38, .ifCond .ge 5, 3), (41, .iconst 4, 1), (42, .ireturn, 1), (43, .iload_n 3, 1), (44, .ifCond .lt 26, 3), (47, .iload_n 3, 1), (48, .aload_n 0, 1), (49, .getfield 13, 3), (52, .iload_n 1, 1), (53, .iaload, 1), (54, .if_icmp .gt 16, 3), (57, .iload 4, 2), (59, .aload_n 0, 1), (60, .getfield 13, 3), (63, .iload_n 1, 1), (64, .iaload, 1), (65, .iload_n 3, 1), (66, .isub, 1), (67, .if_icmp .le 7, 3), (70, .iconst 3, 1), (71, .goto 4, 3), (74, .iconst 0, 1), (75, .ireturn, 1)]
def mt_X7_all : List (Nat × Instr × Nat) := [(0, .aload_n 0, 1), (1, .getfield 66, 3), (4, .aload_n 0, 1), (5, .getfield 69, 3), (8, .imul, 1), (9, .ireturn, 1)]
def mt_X7_isCell : List (Nat × Instr × Nat) := [(0, .iload_n 1, 1), (1, .ifCond .lt 15, 3), (4, .iload_n 1, 1), (5, .aload_n 0, 1), (6, .invokevirtual 72, 3), (9, .if_icmp .ge 7, 3), (12, .iconst 1, 1), (13, .goto 4, 3), (16, .iconst 0, 1), (17, .ireturn, 1)]
def mt_X7_digit : List (Nat × Instr × Nat) := [(0, .aload_n 0, 1), (1, .getfield 76, 3), (4, .iload_n 1, 1), (5, .if_icmp .ge 24, 3), (8, .aload_n 0, 1), (9, .getfield 16, 3), (12, .aload_n 0, 1), (13, .getfield 76, 3), (16, .iaload, 1), (17, .bipush 49, 2), (19, .bipush 48, 2), (21, .iload_n 2, 1), (22, .iadd, 1), (23, .invokestatic 62, 3), (26, .ifCond .ne 6, 3), (29, .bipush (-9), 2), (31, .ireturn, 1), (32, .aload_n 0, 1), (33, .dup, 1), (34, .getfield 76, 3), (37, .iconst 1, 1), (38, .iadd, 1), (39, .putfield 76, 3), (42, .aload_n 0, 1), (43, .getfield 16, 3), (46, .aload_n 0, 1), (47, .getfield 76, 3), (50, .iconst 1, 1), (51, .isub, 1), (52, .iaload, 1), (53, .bipush 48, 2), (55, .isub, 1), (56, .ireturn, 1)]
def mt_X7_pond : List (Nat × Instr × Nat) := [(0, .aload_n 0, 1), (1, .iconst 0, 1), (2, .putfield 56, 3), (5, .iload_n 1, 1), (6, .invokestatic 79, 3), (9, .ifCond .ne 5, 3), (12, .iconst (-1), 1), (13, .ireturn, 1), (14, .iload_n 2, 1), (15, .invokestatic 83, 3), (18, .ifCond .ne 6, 3), (21, .bipush (-2), 2), (23, .ireturn, 1), (24, .aload_n 0, 1), (25, .iload_n 1, 1), (26, .iload_n 2, 1), (27, .iload_n 3, 1), (28, .iload 4, 2), (30, .invokevirtual 86, 3), (33, .istore 5, 2), (35, .iload 5, 2), (37, .ifCond .eq 10, 3), (40, .aload_n 0, 1), (41, .iload 5, 2), (43, .invokevirtual 90, 3), (46, .ireturn, 1), (47, .bipush 60, 2), (49, .iload_n 1, 1), (50, .imul, 1), (51, .iload_n 3, 1), (52, .iadd, 1), (53, .istore 6, 2), (55, .aload_n 0, 1), (56, .iload 6, 2), (58, .putfield 76, 3), (61, .aload_n 0, 1), (62, .iload 6, 2), (64, .iload 4, 2), (66, .iadd, 1), (67, .invokevirtual 94, 3), (70, .ifCond .ne 14, 3), (73, .bipush (-100), 2), (75, .aload_n 0, 1), (76, .getfield 76, 3), (79, .iload 6, 2), (81, .isub, 1), (82, .isub, 1), (83, .ireturn, 1), (84, .aload_n 0, 1), (85, .aload_n 0, 1), (86, .getfield 97, 3), (89, .putfield 66, 3), (92, .aload_n 0, 1), (93, .aload_n 0, 1), (94, .getfield 100, 3), (97, .putfield 69, 3), (100, .iconst 0, 1), (101, .istore 7, 2), (103, .iload 7, 2), (105, .aload_n 0, 1), (106, .invokevirtual 72, 3), (109, .if_icmp .ge 23, 3), (112, .aload_n 0, 1), (113, .getfield 19, 3), (116, .iload 7, 2), (118, .aload_n 0, 1), (119, .getfield 26, 3), (122, .iload 7, 2), (124, .baload, 1), (125, .bastore, 1), (126, .iinc 7 1, 3), (129, .goto (-26), 3), (132, .aload_n 0, 1), (133, .invokevirtual 103, 3), (136, .aload_n 0, 1), (137, .iconst 0, 1), (138, .putfield 106, 3), (141, .aload_n 0, 1), (142, .iconst 0, 1), (143, .putfield 109, 3), (146, .aload_n 0, 1), (147, .iconst 0, 1), (148, .putfield 112, 3), (151, .aload_n 0, 1), (152, .invokevirtual 72, 3), (155, .ireturn, 1)]
def mt_X7_readPond : List (Nat × Instr × Nat) := [(0, .aload_n 0, 1), (1, .getfield 76, 3), (4, .iload_n 1, 1), (5, .if_icmp .ge 17, 3), (8, .aload_n 0, 1), (9, .getfield 16, 3), (12, .aload_n 0, 1), (13, .getfield 76, 3), (16, .iaload, 1), (17, .bipush 112, 2), (19, .if_icmp .eq 5, 3), (22, .iconst 0, 1), (23, .ireturn, 1), (24, .aload_n 0, 1), (25, .dup, 1), (26, .getfield 76, 3), (29, .iconst 1, 1), (30, .iadd, 1), (31, .putfield 76, 3), (34, .aload_n 0, 1), (35, .aload_n 0, 1), (36, .iload_n 1, 1), (37, .bipush 6, 2), (39, .invokevirtual 115, 3), (42, .putfield 97, 3), (45, .aload_n 0, 1), (46, .getfield 97, 3), (49, .bipush (-9), 2), (51, .if_icmp .ne 5, 3), (54, .iconst 0, 1), (55, .ireturn, 1), (56, .aload_n 0, 1), (57, .aload_n 0, 1), (58, .iload_n 1, 1), (59, .bipush 7, 2), (61, .invokevirtual 115, 3), (64, .putfield 100, 3), (67, .aload_n 0, 1), (68, .getfield 100, 3), (71, .bipush (-9), 2), (73, .if_icmp .ne 5, 3), (76, .iconst 0, 1), (77, .ireturn, 1), (78, .iconst 0, 1), (79, .istore_n 2, 1), (80, .iload_n 2, 1), (81, .aload_n 0, 1), (82, .getfield 97, 3), (85, .if_icmp .ge 139, 3), (88, .aload_n 0, 1), (89, .getfield 76, 3), (92, .iload_n 1, 1), (93, .if_icmp .ge 17, 3), (96, .aload_n 0, 1), (97, .getfield 16, 3), (100, .aload_n 0, 1), (101, .getfield 76, 3), (104, .iaload, 1), (105, .bipush 59, 2), (107, .if_icmp .eq 5, 3), (110, .iconst 0, 1), (111, .ireturn, 1), (112, .aload_n 0, 1), (113, .dup, 1), (114, .getfield 76, 3), (117, .iconst 1, 1), (118, .iadd, 1), (119, .putfield 76, 3), (122, .iconst 0, 1), (123, .istore_n 3, 1), (124, .iload_n 3, 1), (125, .aload_n 0, 1), (126, .getfield 100, 3), (129, .if_icmp .ge 89, 3), (132, .aload_n 0, 1), (133, .getfield 76, 3), (136, .iload_n 1, 1), (137, .if_icmp .ge 31, 3), (140, .aload_n 0, 1), (141, .getfield 16, 3), (144, .aload_n 0, 1), (145, .getfield 76, 3), (148, .iaload, 1), (149, .bipush 46, 2), (151, .if_icmp .eq 19, 3), (154, .aload_n 0, 1), (155, .getfield 16, 3), (158, .aload_n 0, 1), (159, .getfield 76, 3), (162, .iaload, 1), (163, .bipush 35, 2), (165, .if_icmp .eq 5, 3), (168, .iconst 0, 1), (169, .ireturn, 1), (170, .aload_n 0, 1), (171, .getfield 26, 3), (174, .aload_n 0, 1), (175, .getfield 100, 3), (178, .iload_n 2, 1), (179, .imul, 1), (180, .iload_n 3, 1), (181, .iadd, 1), (182, .aload_n 0, 1), (183, .getfield 16, 3), (186, .aload_n 0, 1), (187, .getfield 76, 3), (190, .iaload, 1), (191, .bipush 46, 2), (193, .if_icmp .ne 7, 3), (196, .iconst 1, 1), (197, .goto 4, 3), (200, .iconst 0, 1), (201, .bastore, 1), (202, .aload_n 0, 1), (203, .dup, 1), (204, .getfield 76, 3), (207, .iconst 1, 1), (208, .iadd, 1), (209, .putfield 76, 3), (212, .iinc 3 1, 3), (215, .goto (-91), 3), (218, .iinc 2 1, 3), (221, .goto (-141), 3), (224, .aload_n 0, 1), (225, .getfield 76, 3), (228, .iload_n 1, 1), (229, .if_icmp .ne 7, 3), (232, .iconst 1, 1), (233, .goto 4, 3), (236, .iconst 0, 1), (237, .ireturn, 1)]
def mt_X7_beside : List (Nat × Instr × Nat) := [(0, .iload_n 1, 1), (1, .aload_n 0, 1), (2, .getfield 69, 3), (5, .idiv, 1), (6, .istore_n 3, 1), (7, .iload_n 1, 1), (8, .aload_n 0, 1), (9, .getfield 69, 3), (12, .irem, 1), (13, .istore 4, 2), (15, .bipush (-9), 2), (17, .istore 5, 2), (19, .iload_n 2, 1), (20, .ifCond .ne 18, 3), (23, .iload_n 3, 1), (24, .ifCond .le 14, 3), (27, .iload_n 1, 1), (28, .aload_n 0, 1), (29, .getfield 69, 3), (32, .isub, 1), (33, .istore 5, 2), (35, .goto 68, 3), (38, .iload_n 2, 1), (39, .iconst 1, 1), (40, .if_icmp .ne 16, 3), (43, .iload 4, 2), (45, .ifCond .le 11, 3), (48, .iload_n 1, 1), (49, .iconst 1, 1), (50, .isub, 1), (51, .istore 5, 2), (53, .goto 50, 3), (56, .iload_n 2, 1), (57, .iconst 2, 1), (58, .if_icmp .ne 22, 3), (61, .iload 4, 2), (63, .aload_n 0, 1), (64, .getfield 69, 3), (67, .iconst 1, 1), (68, .isub, 1), (69, .if_icmp .ge 11, 3), (72, .iload_n 1, 1), (73, .iconst 1, 1), (74, .iadd, 1), (75, .istore 5, 2), (77, .goto 26, 3), (80, .iload_n 2, 1), (81, .iconst 3, 1), (82, .if_icmp .ne 21, 3), (85, .iload_n 3, 1), (86, .aload_n 0, 1), (87, .getfield 66, 3), (90, .iconst 1, 1), (91, .isub, 1), (92, .if_icmp .ge 11, 3), (95, .iload_n 1, 1), (96, .aload_n 0, 1), (97, .getfield 69, 3), (100, .iadd, 1), (101, .istore 5, 2), (103, .iload 5, 2), (105, .bipush (-9), 2), (107, .if_icmp .eq 13, 3), (110, .aload_n 0, 1), (111, .getfield 19, 3), (114, .iload 5, 2), (116, .baload, 1), (117, .ifCond .ne 8, 3), (120, .bipush (-9), 2), (122, .goto 5, 3), (125, .iload 5, 2), (127, .ireturn, 1)]
def mt_X7_way : List (Nat × Instr × Nat) := [(0, .aload_n 0, 1), (1, .getfield 23, 3), (4, .bipush 42, 2), (6, .iload_n 1, 1), (7, .imul, 1), (8, .iload_n 2, 1), (9, .iadd, 1), (10, .iaload, 1), (11, .ireturn, 1)]
def mt_X7_layWays : List (Nat × Instr × Nat) := [(0, .iconst 0, 1), (1, .istore_n 1, 1), (2, .iload_n 1, 1), (3, .aload_n 0, 1), (4, .invokevirtual 72, 3), (7, .if_icmp .ge 87, 3), (10, .iconst 0, 1), (11, .istore_n 2, 1), (12, .iload_n 2, 1), (13, .aload_n 0, 1), (14, .invokevirtual 72, 3), (17, .if_icmp .ge 40, 3), (20, .aload_n 0, 1), (21, .getfield 23, 3), (24, .bipush 42, 2), (26, .iload_n 1, 1), (27, .imul, 1), (28, .iload_n 2, 1), (29, .iadd, 1), (30, .iload_n 1, 1), (31, .iload_n 2, 1), (32, .if_icmp .ne 16, 3), (35, .aload_n 0, 1), (36, .getfield 19, 3), (39, .iload_n 1, 1), (40, .baload, 1), (41, .ifCond .eq 7, 3), (44, .iconst 0, 1), (45, .goto 5, 3), (48, .bipush (-9), 2), (50, .iastore, 1), (51, .iinc 2 1, 3), (54, .goto (-42), 3), (57, .iconst 0, 1), (58, .istore_n 2, 1), (59, .iload_n 2, 1), (60, .aload_n 0, 1), (61, .invokevirtual 72, 3), (64, .if_icmp .ge 24, 3), (67, .aload_n 0, 1), (68, .getfield 19, 3), (71, .iload_n 1, 1), (72, .baload, 1), (73, .ifCond .eq 15, 3), (76, .aload_n 0, 1), (77, .iload_n 1, 1), (78, .iload_n 2, 1), (79, .invokevirtual 119, 3), (82, .iinc 2 1, 3), (85, .goto (-26), 3), (88, .iinc 1 1, 3), (91, .goto (-89), 3), (94, .return_, 1)]
def mt_X7_goOn : List (Nat × Instr × Nat) := [(0, .iconst 0, 1), (1, .istore_n 3, 1), (2, .iload_n 3, 1), (3, .aload_n 0, 1), (4, .invokevirtual 72, 3), (7, .if_icmp .ge 77, 3), (10, .iconst 0, 1), (11, .istore 4, 2), (13, .iload 4, 2), (15, .iconst 4, 1), (16, .if_icmp .ge 62, 3), (19, .aload_n 0, 1), (20, .iload_n 1, 1), (21, .iload_n 3, 1), (22, .invokevirtual 123, 3), (25, .iload_n 2, 1), (26, .if_icmp .ne 52, 3), (29, .aload_n 0, 1), (30, .iload_n 3, 1), (31, .iload 4, 2), (33, .invokevirtual 126, 3), (36, .istore 5, 2), (38, .iload 5, 2), (40, .bipush (-9), 2), (42, .if_icmp .eq 30, 3), (45, .aload_n 0, 1), (46, .iload_n 1, 1), (47, .iload 5, 2), (49, .invokevirtual 123, 3), (52, .bipush (-9), 2), (54, .if_icmp .ne 18, 3), (57, .aload_n 0, 1), (58, .getfield 23, 3), (61, .bipush 42, 2), (63, .iload_n 1, 1), (64, .imul, 1), (65, .iload 5, 2), (67, .iadd, 1), (68, .iload_n 2, 1), (69, .iconst 1, 1), (70, .iadd, 1), (71, .iastore, 1), (72, .iinc 4 1, 3), (75, .goto (-62), 3), (78, .iinc 3 1, 3), (81, .goto (-79), 3), (84, .return_, 1)]
def mt_X7_water : List (Nat × Instr × Nat) := [(0, .aload_n 0, 1), (1, .iload_n 1, 1), (2, .invokevirtual 129, 3), (5, .ifCond .ne 7, 3), (8, .iconst (-1), 1), (9, .goto 17, 3), (12, .aload_n 0, 1), (13, .getfield 19, 3), (16, .iload_n 1, 1), (17, .baload, 1), (18, .ifCond .eq 7, 3), (21, .iconst 1, 1), (22, .goto 4, 3), (25, .iconst 0, 1), (26, .ireturn, 1)]
def mt_X7_far : List (Nat × Instr × Nat) := [(0, .aload_n 0, 1), (1, .iload_n 1, 1), (2, .invokevirtual 129, 3), (5, .ifCond .eq 20, 3), (8, .aload_n 0, 1), (9, .iload_n 2, 1), (10, .invokevirtual 129, 3), (13, .ifCond .eq 12, 3), (16, .aload_n 0, 1), (17, .iload_n 1, 1), (18, .iload_n 2, 1), (19, .invokevirtual 123, 3), (22, .goto 4, 3), (25, .iconst (-1), 1), (26, .ireturn, 1)]
def mt_X7_reach : List (Nat × Instr × Nat) := [(0, .iload_n 0, 1), (1, .ifCond .ne 8, 3), (4, .bipush 99, 2), (6, .goto 13, 3), (9, .iload_n 0, 1), (10, .iconst 1, 1), (11, .if_icmp .ne 7, 3), (14, .iconst 3, 1), (15, .goto 4, 3), (18, .iconst 1, 1), (19, .ireturn, 1)]
def mt_X7_comes : List (Nat × Instr × Nat) := [(0, .iload 4, 2), (2, .ifCond .lt 27, 3), (5, .iload 4, 2), (7, .iload_n 1, 1), (8, .invokestatic 132, 3), (11, .if_icmp .gt 18, 3), (14, .aload_n 0, 1), (15, .iload_n 2, 1), (16, .iload_n 3, 1), (17, .invokevirtual 123, 3), (20, .iload 4, 2), (22, .if_icmp .ne 7, 3), (25, .iconst 1, 1), (26, .goto 4, 3), (29, .iconst 0, 1), (30, .ireturn, 1)]
def mt_X7_isStone : List (Nat × Instr × Nat) := [(0, .iload_n 1, 1), (1, .ifCond .lt 15, 3), (4, .iload_n 1, 1), (5, .aload_n 0, 1), (6, .getfield 106, 3), (9, .if_icmp .ge 7, 3), (12, .iconst 1, 1), (13, .goto 4, 3), (16, .iconst 0, 1), (17, .ireturn, 1)]
def mt_X7_stone : List (Nat × Instr × Nat) := [(0, .aload_n 0, 1), (1, .iload_n 2, 1), (2, .invokevirtual 129, 3), (5, .ifCond .ne 5, 3), (8, .iconst (-1), 1), (9, .ireturn, 1), (10, .iload_n 1, 1), (11, .iconst 0, 1), (12, .iconst 2, 1), (13, .invokestatic 62, 3), (16, .ifCond .eq 13, 3), (19, .iload_n 3, 1), (20, .iconst 0, 1), (21, .bipush 99, 2), (23, .invokestatic 62, 3), (26, .ifCond .ne 6, 3), (29, .bipush (-2), 2), (31, .ireturn, 1), (32, .aload_n 0, 1), (33, .getfield 19, 3), (36, .iload_n 2, 1), (37, .baload, 1), (38, .ifCond .ne 6, 3), (41, .bipush (-3), 2), (43, .ireturn, 1), (44, .aload_n 0, 1), (45, .getfield 106, 3), (48, .bipush 8, 2), (50, .if_icmp .ne 6, 3), (53, .bipush (-4), 2), (55, .ireturn, 1), (56, .aload_n 0, 1), (57, .getfield 29, 3), (60, .aload_n 0, 1), (61, .getfield 106, 3), (64, .iload_n 1, 1), (65, .iastore, 1), (66, .aload_n 0, 1), (67, .getfield 32, 3), (70, .aload_n 0, 1), (71, .getfield 106, 3), (74, .iload_n 2, 1), (75, .iastore, 1), (76, .aload_n 0, 1), (77, .getfield 35, 3), (80, .aload_n 0, 1), (81, .getfield 106, 3), (84, .iload_n 3, 1), (85, .iastore, 1), (86, .aload_n 0, 1), (87, .dup, 1), (88, .getfield 106, 3), (91, .iconst 1, 1), (92, .iadd, 1), (93, .putfield 106, 3), (96, .aload_n 0, 1), (97, .getfield 106, 3), (100, .iconst 1, 1), (101, .isub, 1), (102, .ireturn, 1)]
def mt_X7_overAt : List (Nat × Instr × Nat) := [(0, .iconst 0, 1), (1, .istore_n 2, 1), (2, .iconst 0, 1), (3, .istore_n 3, 1), (4, .iload_n 3, 1), (5, .aload_n 0, 1), (6, .invokevirtual 72, 3), (9, .if_icmp .ge 35, 3), (12, .aload_n 0, 1), (13, .aload_n 0, 1), (14, .getfield 32, 3), (17, .iload_n 1, 1), (18, .iaload, 1), (19, .iload_n 3, 1), (20, .invokevirtual 123, 3), (23, .istore 4, 2), (25, .iload 4, 2), (27, .iload_n 2, 1), (28, .if_icmp .le 8, 3), (31, .iload 4, 2), (33, .goto 4, 3), (36, .iload_n 2, 1), (37, .istore_n 2, 1), (38, .iinc 3 1, 3), (41, .goto (-37), 3), (44, .aload_n 0, 1), (45, .getfield 29, 3), (48, .iload_n 1, 1), (49, .iaload, 1), (50, .invokestatic 132, 3), (53, .istore_n 3, 1), (54, .aload_n 0, 1), (55, .getfield 35, 3), (58, .iload_n 1, 1), (59, .iaload, 1), (60, .iload_n 2, 1), (61, .iload_n 3, 1), (62, .if_icmp .ge 7, 3), (65, .iload_n 2, 1), (66, .goto 4, 3), (69, .iload_n 3, 1), (70, .iadd, 1), (71, .iconst 1, 1), (72, .iadd, 1), (73, .ireturn, 1)]
def mt_X7_ofStone : List (Nat × Instr × Nat) := [(0, .aload_n 0, 1), (1, .iload_n 1, 1), (2, .invokevirtual 135, 3), (5, .ifCond .ne 5, 3), (8, .iconst (-1), 1), (9, .ireturn, 1), (10, .iload_n 2, 1), (11, .ifCond .ne 12, 3), (14, .aload_n 0, 1), (15, .getfield 29, 3), (18, .iload_n 1, 1), (19, .iaload, 1), (20, .goto 46, 3), (23, .iload_n 2, 1), (24, .iconst 1, 1), (25, .if_icmp .ne 12, 3), (28, .aload_n 0, 1), (29, .getfield 32, 3), (32, .iload_n 1, 1), (33, .iaload, 1), (34, .goto 32, 3), (37, .iload_n 2, 1), (38, .iconst 2, 1), (39, .if_icmp .ne 12, 3), (42, .aload_n 0, 1), (43, .getfield 35, 3), (46, .iload_n 1, 1), (47, .iaload, 1), (48, .goto 18, 3), (51, .iload_n 2, 1), (52, .iconst 3, 1), (53, .if_icmp .ne 11, 3), (56, .aload_n 0, 1), (57, .iload_n 1, 1), (58, .invokevirtual 138, 3), (61, .goto 5, 3), (64, .bipush (-2), 2), (66, .ireturn, 1)]
def mt_X7_back : List (Nat × Instr × Nat) := [(0, .iload_n 1, 1), (1, .iconst 0, 1), (2, .aload_n 0, 1), (3, .getfield 106, 3), (6, .invokestatic 62, 3), (9, .ifCond .ne 6, 3), (12, .bipush (-2), 2), (14, .ireturn, 1), (15, .aload_n 0, 1), (16, .dup, 1), (17, .getfield 106, 3), (20, .iload_n 1, 1), (21, .isub, 1), (22, .putfield 106, 3), (25, .aload_n 0, 1), (26, .getfield 106, 3), (29, .ireturn, 1)]
def mt_X7_ring : List (Nat × Instr × Nat) := [(0, .aload_n 0, 1), (1, .iload_n 1, 1), (2, .invokevirtual 135, 3), (5, .ifCond .eq 14, 3), (8, .iload_n 2, 1), (9, .iconst 0, 1), (10, .sipush 999, 3), (13, .invokestatic 62, 3), (16, .ifCond .ne 7, 3), (19, .ldc2_w 60, 3), (22, .lreturn, 1), (23, .lconst 0, 1), (24, .lstore_n 3, 1), (25, .iconst 0, 1), (26, .istore 5, 2), (28, .iload 5, 2), (30, .aload_n 0, 1), (31, .invokevirtual 72, 3), (34, .if_icmp .ge 49, 3), (37, .lload_n 3, 1), (38, .aload_n 0, 1), (39, .aload_n 0, 1), (40, .getfield 29, 3), (43, .iload_n 1, 1), (44, .iaload, 1), (45, .aload_n 0, 1), (46, .getfield 32, 3), (49, .iload_n 1, 1), (50, .iaload, 1), (51, .iload 5, 2), (53, .iload_n 2, 1), (54, .aload_n 0, 1), (55, .getfield 35, 3), (58, .iload_n 1, 1), (59, .iaload, 1), (60, .isub, 1), (61, .invokevirtual 141, 3), (64, .ifCond .eq 10, 3), (67, .lconst 1, 1), (68, .iload 5, 2), (70, .lshl, 1), (71, .goto 4, 3), (74, .lconst 0, 1), (75, .lor, 1), (76, .lstore_n 3, 1), (77, .iinc 5 1, 3), (80, .goto (-52), 3), (83, .lload_n 3, 1), (84, .lreturn, 1)]
def mt_X7_offer : List (Nat × Instr × Nat) := [(0, .aload_n 0, 1), (1, .getfield 145, 3), (4, .bipush (-9), 2), (6, .if_icmp .eq 11, 3), (9, .iload_n 1, 1), (10, .aload_n 0, 1), (11, .getfield 145, 3), (14, .if_icmp .ge 7, 3), (17, .iconst 1, 1), (18, .goto 4, 3), (21, .iconst 0, 1), (22, .istore 4, 2), (24, .iload_n 1, 1), (25, .aload_n 0, 1), (26, .getfield 145, 3), (29, .if_icmp .ne 7, 3), (32, .iconst 1, 1), (33, .goto 4, 3), (36, .iconst 0, 1), (37, .istore 5, 2), (39, .iload 4, 2), (41, .ifCond .ne 35, 3), (44, .iload 5, 2), (46, .ifCond .eq 45, 3), (49, .iload_n 3, 1), (50, .ifCond .eq 10, 3), (53, .aload_n 0, 1), (54, .getfield 148, 3), (57, .ifCond .eq 19, 3), (60, .iload_n 3, 1), (61, .aload_n 0, 1), (62, .getfield 148, 3), (65, .if_icmp .ne 26, 3), (68, .iload_n 2, 1), (69, .aload_n 0, 1), (70, .getfield 152, 3), (73, .if_icmp .ge 18, 3), (76, .aload_n 0, 1), (77, .iload_n 1, 1), (78, .putfield 145, 3), (81, .aload_n 0, 1), (82, .iload_n 2, 1), (83, .putfield 152, 3), (86, .aload_n 0, 1), (87, .iload_n 3, 1), (88, .putfield 148, 3), (91, .return_, 1)]
def mt_X7_findMeet : List (Nat × Instr × Nat) := [(0, .aload_n 0, 1), (1, .bipush (-9), 2), (3, .putfield 145, 3), (6, .aload_n 0, 1), (7, .bipush (-9), 2), (9, .putfield 152, 3), (12, .iconst 0, 1), (13, .istore_n 3, 1), (14, .iload_n 3, 1), (15, .aload_n 0, 1), (16, .invokevirtual 72, 3), (19, .if_icmp .ge 171, 3), (22, .aload_n 0, 1), (23, .getfield 35, 3), (26, .iload_n 1, 1), (27, .iaload, 1), (28, .aload_n 0, 1), (29, .aload_n 0, 1), (30, .getfield 32, 3), (33, .iload_n 1, 1), (34, .iaload, 1), (35, .iload_n 3, 1), (36, .invokevirtual 123, 3), (39, .iadd, 1), (40, .istore 4, 2), (42, .aload_n 0, 1), (43, .iload_n 1, 1), (44, .iload_n 3, 1), (45, .iload 4, 2), (47, .invokevirtual 155, 3), (50, .ifCond .eq 22, 3), (53, .aload_n 0, 1), (54, .iload_n 2, 1), (55, .iload_n 3, 1), (56, .iload 4, 2), (58, .invokevirtual 155, 3), (61, .ifCond .eq 11, 3), (64, .aload_n 0, 1), (65, .iload 4, 2), (67, .iload_n 3, 1), (68, .iconst 1, 1), (69, .invokevirtual 158, 3), (72, .iconst 0, 1), (73, .istore 5, 2), (75, .iload 5, 2), (77, .iconst 4, 1), (78, .if_icmp .ge 106, 3), (81, .aload_n 0, 1), (82, .iload_n 3, 1), (83, .iload 5, 2), (85, .invokevirtual 126, 3), (88, .istore 6, 2), (90, .iload 6, 2), (92, .bipush (-9), 2), (94, .if_icmp .eq 30, 3), (97, .aload_n 0, 1), (98, .iload_n 1, 1), (99, .iload_n 3, 1), (100, .iload 4, 2), (102, .invokevirtual 155, 3), (105, .ifCond .eq 19, 3), (108, .aload_n 0, 1), (109, .iload_n 2, 1), (110, .iload 6, 2), (112, .iload 4, 2), (114, .invokevirtual 155, 3), (117, .ifCond .eq 7, 3), (120, .iconst 1, 1), (121, .goto 4, 3), (124, .iconst 0, 1), (125, .istore 7, 2), (127, .iload 7, 2), (129, .ifCond .eq 49, 3), (132, .aload_n 0, 1), (133, .iload_n 1, 1), (134, .iload 6, 2), (136, .iload 4, 2), (138, .iconst 1, 1), (139, .iadd, 1), (140, .invokevirtual 155, 3), (143, .ifCond .eq 35, 3), (146, .aload_n 0, 1), (147, .iload_n 2, 1), (148, .iload_n 3, 1), (149, .iload 4, 2), (151, .iconst 1, 1), (152, .iadd, 1), (153, .invokevirtual 155, 3), (156, .ifCond .eq 22, 3), (159, .aload_n 0, 1), (160, .iload 4, 2), (162, .iload_n 3, 1), (163, .iload 6, 2), (165, .if_icmp .ge 7, 3), (168, .iload_n 3, 1), (169, .goto 5, 3), (172, .iload 6, 2), (174, .iconst 0, 1), (175, .invokevirtual 158, 3), (178, .iinc 5 1, 3), (181, .goto (-106), 3), (184, .iinc 3 1, 3), (187, .goto (-173), 3), (190, .return_, 1)]
def mt_X7_isThere : List (Nat × Instr × Nat) := [(0, .aload_n 0, 1), (1, .aload_n 0, 1), (2, .getfield 29, 3), (5, .iload_n 1, 1), (6, .iaload, 1), (7, .aload_n 0, 1), (8, .getfield 32, 3), (11, .iload_n 1, 1), (12, .iaload, 1), (13, .iload_n 2, 1), (14, .iload_n 3, 1), (15, .aload_n 0, 1), (16, .getfield 35, 3), (19, .iload_n 1, 1), (20, .iaload, 1), (21, .isub, 1), (22, .invokevirtual 141, 3), (25, .ireturn, 1)]
def mt_X7_meet : List (Nat × Instr × Nat) := [(0, .aload_n 0, 1), (1, .iload_n 1, 1), (2, .invokevirtual 135, 3), (5, .ifCond .eq 16, 3), (8, .aload_n 0, 1), (9, .iload_n 2, 1), (10, .invokevirtual 135, 3), (13, .ifCond .eq 8, 3), (16, .iload_n 1, 1), (17, .iload_n 2, 1), (18, .if_icmp .ne 5, 3), (21, .iconst (-1), 1), (22, .ireturn, 1), (23, .iload_n 3, 1), (24, .iconst 0, 1), (25, .iconst 1, 1), (26, .invokestatic 62, 3), (29, .ifCond .ne 6, 3), (32, .bipush (-2), 2), (34, .ireturn, 1), (35, .aload_n 0, 1), (36, .iload_n 1, 1), (37, .iload_n 2, 1), (38, .invokevirtual 162, 3), (41, .iload_n 3, 1), (42, .ifCond .ne 10, 3), (45, .aload_n 0, 1), (46, .getfield 145, 3), (49, .goto 7, 3), (52, .aload_n 0, 1), (53, .getfield 152, 3), (56, .ireturn, 1)]
def mt_X7_first : List (Nat × Instr × Nat) := [(0, .iload_n 1, 1), (1, .iconst 0, 1), (2, .iconst 2, 1), (3, .invokestatic 62, 3), (6, .ifCond .ne 6, 3), (9, .bipush (-2), 2), (11, .ireturn, 1), (12, .bipush (-9), 2), (14, .istore_n 2, 1), (15, .bipush (-9), 2), (17, .istore_n 3, 1), (18, .bipush (-9), 2), (20, .istore 4, 2), (22, .iconst 0, 1), (23, .istore 5, 2), (25, .iload 5, 2), (27, .aload_n 0, 1), (28, .getfield 106, 3), (31, .if_icmp .ge 75, 3), (34, .iload 5, 2), (36, .iconst 1, 1), (37, .iadd, 1), (38, .istore 6, 2), (40, .iload 6, 2), (42, .aload_n 0, 1), (43, .getfield 106, 3), (46, .if_icmp .ge 54, 3), (49, .aload_n 0, 1), (50, .iload 5, 2), (52, .iload 6, 2), (54, .invokevirtual 162, 3), (57, .aload_n 0, 1), (58, .getfield 145, 3), (61, .bipush (-9), 2), (63, .if_icmp .eq 31, 3), (66, .iload 4, 2), (68, .bipush (-9), 2), (70, .if_icmp .eq 12, 3), (73, .aload_n 0, 1), (74, .getfield 145, 3), (77, .iload 4, 2), (79, .if_icmp .ge 15, 3), (82, .iload 5, 2), (84, .istore_n 2, 1), (85, .iload 6, 2), (87, .istore_n 3, 1), (88, .aload_n 0, 1), (89, .getfield 145, 3), (92, .istore 4, 2), (94, .iinc 6 1, 3), (97, .goto (-57), 3), (100, .iinc 5 1, 3), (103, .goto (-78), 3), (106, .iload_n 1, 1), (107, .ifCond .ne 7, 3), (110, .iload_n 2, 1), (111, .goto 14, 3), (114, .iload_n 1, 1), (115, .iconst 1, 1), (116, .if_icmp .ne 7, 3), (119, .iload_n 3, 1), (120, .goto 5, 3), (123, .iload 4, 2), (125, .ireturn, 1)]
def mt_X7_isWish : List (Nat × Instr × Nat) := [(0, .iload_n 1, 1), (1, .ifCond .lt 15, 3), (4, .iload_n 1, 1), (5, .aload_n 0, 1), (6, .getfield 109, 3), (9, .if_icmp .ge 7, 3), (12, .iconst 1, 1), (13, .goto 4, 3), (16, .iconst 0, 1), (17, .ireturn, 1)]
def mt_X7_wish : List (Nat × Instr × Nat) := [(0, .aload_n 0, 1), (1, .iload_n 2, 1), (2, .invokevirtual 129, 3), (5, .ifCond .ne 5, 3), (8, .iconst (-1), 1), (9, .ireturn, 1), (10, .iload_n 1, 1), (11, .iconst 0, 1), (12, .iconst 2, 1), (13, .invokestatic 62, 3), (16, .ifCond .ne 6, 3), (19, .bipush (-2), 2), (21, .ireturn, 1), (22, .aload_n 0, 1), (23, .getfield 19, 3), (26, .iload_n 2, 1), (27, .baload, 1), (28, .ifCond .ne 6, 3), (31, .bipush (-3), 2), (33, .ireturn, 1), (34, .aload_n 0, 1), (35, .getfield 109, 3), (38, .bipush 6, 2), (40, .if_icmp .ne 6, 3), (43, .bipush (-4), 2), (45, .ireturn, 1), (46, .aload_n 0, 1), (47, .getfield 38, 3), (50, .aload_n 0, 1), (51, .getfield 109, 3), (54, .iload_n 1, 1), (55, .iastore, 1), (56, .aload_n 0, 1), (57, .getfield 41, 3), (60, .aload_n 0, 1), (61, .getfield 109, 3), (64, .iload_n 2, 1), (65, .iastore, 1), (66, .aload_n 0, 1), (67, .dup, 1), (68, .getfield 109, 3), (71, .iconst 1, 1), (72, .iadd, 1), (73, .putfield 109, 3), (76, .aload_n 0, 1), (77, .getfield 109, 3), (80, .iconst 1, 1), (81, .isub, 1), (82, .ireturn, 1)]
def mt_X7_ofWish : List (Nat × Instr × Nat) := [(0, .aload_n 0, 1), (1, .iload_n 1, 1), (2, .invokevirtual 165, 3), (5, .ifCond .ne 5, 3), (8, .iconst (-1), 1), (9, .ireturn, 1), (10, .iload_n 2, 1), (11, .ifCond .ne 12, 3), (14, .aload_n 0, 1), (15, .getfield 38, 3), (18, .iload_n 1, 1), (19, .iaload, 1), (20, .goto 19, 3), (23, .iload_n 2, 1), (24, .iconst 1, 1), (25, .if_icmp .ne 12, 3), (28, .aload_n 0, 1), (29, .getfield 41, 3), (32, .iload_n 1, 1), (33, .iaload, 1), (34, .goto 5, 3), (37, .bipush (-2), 2), (39, .ireturn, 1)]
def mt_X7_drop : List (Nat × Instr × Nat) := [(0, .iload_n 1, 1), (1, .iconst 0, 1), (2, .aload_n 0, 1), (3, .getfield 109, 3), (6, .invokestatic 62, 3), (9, .ifCond .ne 6, 3), (12, .bipush (-2), 2), (14, .ireturn, 1), (15, .aload_n 0, 1), (16, .dup, 1), (17, .getfield 109, 3), (20, .iload_n 1, 1), (21, .isub, 1), (22, .putfield 109, 3), (25, .aload_n 0, 1), (26, .getfield 109, 3), (29, .ireturn, 1)]
def mt_X7_isWithin : List (Nat × Instr × Nat) := [(0, .aload_n 0, 1), (1, .aload_n 0, 1), (2, .getfield 41, 3), (5, .iload_n 1, 1), (6, .iaload, 1), (7, .iload_n 2, 1), (8, .invokevirtual 123, 3), (11, .istore_n 3, 1), (12, .iload_n 3, 1), (13, .bipush (-9), 2), (15, .if_icmp .eq 20, 3), (18, .iload_n 3, 1), (19, .aload_n 0, 1), (20, .getfield 38, 3), (23, .iload_n 1, 1), (24, .iaload, 1), (25, .invokestatic 132, 3), (28, .if_icmp .gt 7, 3), (31, .iconst 1, 1), (32, .goto 4, 3), (35, .iconst 0, 1), (36, .ireturn, 1)]
def mt_X7_meetBy : List (Nat × Instr × Nat) := [(0, .iload_n 3, 1), (1, .bipush (-50), 2), (3, .bipush 50, 2), (5, .invokestatic 62, 3), (8, .ifCond .eq 29, 3), (11, .aload_n 0, 1), (12, .getfield 44, 3), (15, .bipush 101, 2), (17, .bipush 6, 2), (19, .iload_n 1, 1), (20, .imul, 1), (21, .iload_n 2, 1), (22, .iadd, 1), (23, .imul, 1), (24, .iload_n 3, 1), (25, .iadd, 1), (26, .bipush 50, 2), (28, .iadd, 1), (29, .baload, 1), (30, .ifCond .eq 7, 3), (33, .iconst 1, 1), (34, .goto 4, 3), (37, .iconst 0, 1), (38, .ireturn, 1)]
def mt_X7_layMeets : List (Nat × Instr × Nat) := [(0, .iconst 0, 1), (1, .istore_n 1, 1), (2, .iload_n 1, 1), (3, .sipush 3636, 3), (6, .if_icmp .ge 16, 3), (9, .aload_n 0, 1), (10, .getfield 44, 3), (13, .iload_n 1, 1), (14, .iconst 0, 1), (15, .bastore, 1), (16, .iinc 1 1, 3), (19, .goto (-17), 3), (22, .iconst 0, 1), (23, .istore_n 1, 1), (24, .iload_n 1, 1), (25, .aload_n 0, 1), (26, .getfield 109, 3), (29, .if_icmp .ge 53, 3), (32, .iconst 0, 1), (33, .istore_n 2, 1), (34, .iload_n 2, 1), (35, .aload_n 0, 1), (36, .getfield 109, 3), (39, .if_icmp .ge 37, 3), (42, .iconst 0, 1), (43, .istore_n 3, 1), (44, .iload_n 3, 1), (45, .aload_n 0, 1), (46, .invokevirtual 72, 3), (49, .if_icmp .ge 21, 3), (52, .iload_n 1, 1), (53, .iload_n 2, 1), (54, .if_icmp .eq 16, 3), (57, .aload_n 0, 1), (58, .iload_n 1, 1), (59, .iload_n 2, 1), (60, .iload_n 3, 1), (61, .invokevirtual 168, 3), (64, .iinc 3 1, 3), (67, .goto (-23), 3), (70, .iinc 2 1, 3), (73, .goto (-39), 3), (76, .iinc 1 1, 3), (79, .goto (-55), 3), (82, .return_, 1)]
def mt_X7_layMeetsAt : List (Nat × Instr × Nat) := [(0, .aload_n 0, 1), (1, .iload_n 1, 1), (2, .iload_n 3, 1), (3, .invokevirtual 172, 3), (6, .ifCond .ne 4, 3), (9, .return_, 1), (10, .bipush 101, 2), (12, .bipush 6, 2), (14, .iload_n 1, 1), (15, .imul, 1), (16, .iload_n 2, 1), (17, .iadd, 1), (18, .imul, 1), (19, .bipush 50, 2), (21, .iadd, 1), (22, .istore 4, 2), (24, .aload_n 0, 1), (25, .aload_n 0, 1), (26, .getfield 41, 3), (29, .iload_n 1, 1), (30, .iaload, 1), (31, .iload_n 3, 1), (32, .invokevirtual 123, 3), (35, .istore 5, 2), (37, .aload_n 0, 1), (38, .iload_n 2, 1), (39, .iload_n 3, 1), (40, .invokevirtual 172, 3), (43, .ifCond .eq 26, 3), (46, .aload_n 0, 1), (47, .getfield 44, 3), (50, .iload 4, 2), (52, .iload 5, 2), (54, .iadd, 1), (55, .aload_n 0, 1), (56, .aload_n 0, 1), (57, .getfield 41, 3), (60, .iload_n 2, 1), (61, .iaload, 1), (62, .iload_n 3, 1), (63, .invokevirtual 123, 3), (66, .isub, 1), (67, .iconst 1, 1), (68, .bastore, 1), (69, .iconst 0, 1), (70, .istore 6, 2), (72, .iload 6, 2), (74, .iconst 4, 1), (75, .if_icmp .ge 137, 3), (78, .aload_n 0, 1), (79, .iload_n 3, 1), (80, .iload 6, 2), (82, .invokevirtual 126, 3), (85, .istore 7, 2), (87, .iload 7, 2), (89, .bipush (-9), 2), (91, .if_icmp .eq 36, 3), (94, .aload_n 0, 1), (95, .iload_n 1, 1), (96, .iload 7, 2), (98, .invokevirtual 172, 3), (101, .ifCond .eq 26, 3), (104, .aload_n 0, 1), (105, .iload_n 2, 1), (106, .iload 7, 2), (108, .invokevirtual 172, 3), (111, .ifCond .eq 16, 3), (114, .aload_n 0, 1), (115, .iload_n 2, 1), (116, .iload_n 3, 1), (117, .invokevirtual 172, 3), (120, .ifCond .eq 7, 3), (123, .iconst 1, 1), (124, .goto 4, 3), (127, .iconst 0, 1), (128, .istore 8, 2), (130, .iload 8, 2), (132, .ifCond .eq 74, 3), (135, .aload_n 0, 1), (136, .aload_n 0, 1), (137, .getfield 41, 3), (140, .iload_n 1, 1), (141, .iaload, 1), (142, .iload 7, 2), (144, .invokevirtual 123, 3), (147, .iload 5, 2), (149, .iconst 1, 1), (150, .iadd, 1), (151, .if_icmp .ne 55, 3), (154, .aload_n 0, 1), (155, .aload_n 0, 1), (156, .getfield 41, 3), (159, .iload_n 2, 1), (160, .iaload, 1), (161, .iload_n 3, 1), (162, .invokevirtual 123, 3), (165, .aload_n 0, 1), (166, .aload_n 0, 1), (167, .getfield 41, 3), (170, .iload_n 2, 1), (171, .iaload, 1), (172, .iload 7, 2), (174, .invokevirtual 123, 3), (177, .iconst 1, 1), (178, .iadd, 1), (179, .if_icmp .ne 27, 3), (182, .aload_n 0, 1), (183, .getfield 44, 3), (186, .iload 4, 2), (188, .iload 5, 2), (190, .iadd, 1), (191, .aload_n 0, 1), (192, .aload_n 0, 1), (193, .getfield 41, 3), (196, .iload_n 2, 1), (197, .iaload, 1), (198, .iload 7, 2), (200, .invokevirtual 123, 3), (203, .isub, 1), (204, .iconst 1, 1), (205, .bastore, 1), (206, .iinc 6 1, 3), (209, .goto (-137), 3), (212, .return_, 1)]
def mt_X7_apart : List (Nat × Instr × Nat) := [(0, .aload_n 0, 1), (1, .iload_n 1, 1), (2, .invokevirtual 165, 3), (5, .ifCond .eq 16, 3), (8, .aload_n 0, 1), (9, .iload_n 2, 1), (10, .invokevirtual 165, 3), (13, .ifCond .eq 8, 3), (16, .iload_n 1, 1), (17, .iload_n 2, 1), (18, .if_icmp .ne 5, 3), (21, .iconst (-1), 1), (22, .ireturn, 1), (23, .aload_n 0, 1), (24, .invokevirtual 176, 3), (27, .iconst 0, 1), (28, .istore_n 3, 1), (29, .aload_n 0, 1), (30, .iload_n 1, 1), (31, .iload_n 2, 1), (32, .iload_n 3, 1), (33, .invokevirtual 179, 3), (36, .ifCond .eq 9, 3), (39, .iinc 3 1, 3), (42, .goto (-13), 3), (45, .iload_n 3, 1), (46, .ireturn, 1)]
def mt_X7_size : List (Nat × Instr × Nat) := [(0, .iconst 0, 1), (1, .istore_n 1, 1), (2, .iload_n 0, 1), (3, .istore_n 2, 1), (4, .iload_n 2, 1), (5, .ifCond .le 16, 3), (8, .iload_n 1, 1), (9, .iload_n 2, 1), (10, .iconst 1, 1), (11, .iand, 1), (12, .iadd, 1), (13, .istore_n 1, 1), (14, .iload_n 2, 1), (15, .iconst 1, 1), (16, .ishr, 1), (17, .istore_n 2, 1), (18, .goto (-14), 3), (21, .iload_n 1, 1), (22, .ireturn, 1)]
def mt_X7_mayAtOnce : List (Nat × Instr × Nat) := [(0, .iconst 0, 1), (1, .istore_n 2, 1), (2, .iload_n 2, 1), (3, .aload_n 0, 1), (4, .getfield 109, 3), (7, .if_icmp .ge 57, 3), (10, .iload_n 2, 1), (11, .iconst 1, 1), (12, .iadd, 1), (13, .istore_n 3, 1), (14, .iload_n 3, 1), (15, .aload_n 0, 1), (16, .getfield 109, 3), (19, .if_icmp .ge 39, 3), (22, .iload_n 1, 1), (23, .iload_n 2, 1), (24, .ishr, 1), (25, .iconst 1, 1), (26, .iand, 1), (27, .iconst 1, 1), (28, .if_icmp .ne 24, 3), (31, .iload_n 1, 1), (32, .iload_n 3, 1), (33, .ishr, 1), (34, .iconst 1, 1), (35, .iand, 1), (36, .iconst 1, 1), (37, .if_icmp .ne 15, 3), (40, .aload_n 0, 1), (41, .iload_n 2, 1), (42, .iload_n 3, 1), (43, .iconst 0, 1), (44, .invokevirtual 179, 3), (47, .ifCond .eq 5, 3), (50, .iconst 0, 1), (51, .ireturn, 1), (52, .iinc 3 1, 3), (55, .goto (-41), 3), (58, .iinc 2 1, 3), (61, .goto (-59), 3), (64, .iconst 1, 1), (65, .ireturn, 1)]
def mt_X7_mostAtOnce : List (Nat × Instr × Nat) := [(0, .aload_n 0, 1), (1, .invokevirtual 176, 3), (4, .iconst 0, 1), (5, .istore_n 1, 1), (6, .iconst 1, 1), (7, .istore_n 2, 1), (8, .iload_n 2, 1), (9, .iconst 1, 1), (10, .aload_n 0, 1), (11, .getfield 109, 3), (14, .ishl, 1), (15, .if_icmp .ge 34, 3), (18, .iload_n 2, 1), (19, .invokestatic 182, 3), (22, .iload_n 1, 1), (23, .invokestatic 182, 3), (26, .if_icmp .le 15, 3), (29, .aload_n 0, 1), (30, .iload_n 2, 1), (31, .invokevirtual 185, 3), (34, .ifCond .eq 7, 3), (37, .iload_n 2, 1), (38, .goto 4, 3), (41, .iload_n 1, 1), (42, .istore_n 1, 1), (43, .iinc 2 1, 3), (46, .goto (-38), 3), (49, .iload_n 1, 1), (50, .ireturn, 1)]
def mt_X7_atOnce : List (Nat × Instr × Nat) := [(0, .aload_n 0, 1), (1, .invokevirtual 188, 3), (4, .ireturn, 1)]
def mt_X7_mayBe : List (Nat × Instr × Nat) := [(0, .iconst 0, 1), (1, .istore 5, 2), (3, .iload 5, 2), (5, .iload 4, 2), (7, .if_icmp .ge 46, 3), (10, .iload_n 1, 1), (11, .iload 5, 2), (13, .ishr, 1), (14, .iconst 1, 1), (15, .iand, 1), (16, .iconst 1, 1), (17, .if_icmp .ne 30, 3), (20, .iload 5, 2), (22, .iload_n 2, 1), (23, .if_icmp .eq 24, 3), (26, .aload_n 0, 1), (27, .iload 5, 2), (29, .iload_n 2, 1), (30, .iload_n 3, 1), (31, .aload_n 0, 1), (32, .getfield 47, 3), (35, .iload 5, 2), (37, .iaload, 1), (38, .isub, 1), (39, .invokevirtual 179, 3), (42, .ifCond .eq 5, 3), (45, .iconst 0, 1), (46, .ireturn, 1), (47, .iinc 5 1, 3), (50, .goto (-47), 3), (53, .iconst 1, 1), (54, .ireturn, 1)]
def mt_X7_mayGoOn : List (Nat × Instr × Nat) := [(0, .iload_n 2, 1), (1, .iconst 1, 1), (2, .iadd, 1), (3, .istore 4, 2), (5, .iload 4, 2), (7, .aload_n 0, 1), (8, .getfield 109, 3), (11, .if_icmp .ge 66, 3), (14, .iload_n 1, 1), (15, .iload 4, 2), (17, .ishr, 1), (18, .iconst 1, 1), (19, .iand, 1), (20, .ifCond .ne 7, 3), (23, .iconst 1, 1), (24, .goto 4, 3), (27, .iconst 0, 1), (28, .istore 5, 2), (30, .iconst 0, 1), (31, .istore 6, 2), (33, .iload 6, 2), (35, .iload_n 3, 1), (36, .if_icmp .gt 28, 3), (39, .iload 5, 2), (41, .ifCond .ne 23, 3), (44, .aload_n 0, 1), (45, .iload_n 1, 1), (46, .iload 4, 2), (48, .iload 6, 2), (50, .iload_n 2, 1), (51, .iconst 1, 1), (52, .iadd, 1), (53, .invokevirtual 191, 3), (56, .istore 5, 2), (58, .iinc 6 1, 3), (61, .goto (-28), 3), (64, .iload 5, 2), (66, .ifCond .ne 5, 3), (69, .iconst 0, 1), (70, .ireturn, 1), (71, .iinc 4 1, 3), (74, .goto (-69), 3), (77, .iconst 1, 1), (78, .ireturn, 1)]
def mt_X7_find : List (Nat × Instr × Nat) := [(0, .iconst 0, 1), (1, .istore_n 3, 1), (2, .iconst 0, 1), (3, .istore 4, 2), (5, .iload 4, 2), (7, .aload_n 0, 1), (8, .getfield 109, 3), (11, .if_icmp .ge 17, 3), (14, .aload_n 0, 1), (15, .getfield 47, 3), (18, .iload 4, 2), (20, .iconst (-1), 1), (21, .iastore, 1), (22, .iinc 4 1, 3), (25, .goto (-20), 3), (28, .iload_n 3, 1), (29, .ifCond .lt 165, 3), (32, .iload_n 3, 1), (33, .aload_n 0, 1), (34, .getfield 109, 3), (37, .if_icmp .ge 157, 3), (40, .iload_n 1, 1), (41, .iload_n 3, 1), (42, .ishr, 1), (43, .iconst 1, 1), (44, .iand, 1), (45, .ifCond .ne 17, 3), (48, .aload_n 0, 1), (49, .getfield 47, 3), (52, .iload_n 3, 1), (53, .iaload, 1), (54, .iconst (-1), 1), (55, .if_icmp .ne 7, 3), (58, .iconst 1, 1), (59, .goto 4, 3), (62, .iconst 0, 1), (63, .istore 4, 2), (65, .iload 4, 2), (67, .ifCond .eq 14, 3), (70, .aload_n 0, 1), (71, .getfield 47, 3), (74, .iload_n 3, 1), (75, .bipush (-9), 2), (77, .iastore, 1), (78, .goto 88, 3), (81, .iload_n 1, 1), (82, .iload_n 3, 1), (83, .ishr, 1), (84, .iconst 1, 1), (85, .iand, 1), (86, .iconst 1, 1), (87, .if_icmp .ne 79, 3), (90, .aload_n 0, 1), (91, .getfield 47, 3), (94, .iload_n 3, 1), (95, .dup2, 1), (96, .iaload, 1), (97, .iconst 1, 1), (98, .iadd, 1), (99, .iastore, 1), (100, .aload_n 0, 1), (101, .getfield 47, 3), (104, .iload_n 3, 1), (105, .iaload, 1), (106, .iload_n 2, 1), (107, .if_icmp .gt 42, 3), (110, .aload_n 0, 1), (111, .iload_n 1, 1), (112, .iload_n 3, 1), (113, .aload_n 0, 1), (114, .getfield 47, 3), (117, .iload_n 3, 1), (118, .iaload, 1), (119, .iload_n 3, 1), (120, .invokevirtual 191, 3), (123, .ifCond .eq 13, 3), (126, .aload_n 0, 1), (127, .iload_n 1, 1), (128, .iload_n 3, 1), (129, .iload_n 2, 1), (130, .invokevirtual 194, 3), (133, .ifCond .ne 16, 3), (136, .aload_n 0, 1), (137, .getfield 47, 3), (140, .iload_n 3, 1), (141, .dup2, 1), (142, .iaload, 1), (143, .iconst 1, 1), (144, .iadd, 1), (145, .iastore, 1), (146, .goto (-46), 3), (149, .aload_n 0, 1), (150, .getfield 47, 3), (153, .iload_n 3, 1), (154, .iaload, 1), (155, .iload_n 2, 1), (156, .if_icmp .gt 7, 3), (159, .iconst 1, 1), (160, .goto 4, 3), (163, .iconst 0, 1), (164, .istore 4, 2), (166, .iload 4, 2), (168, .ifCond .ne 10, 3), (171, .aload_n 0, 1), (172, .getfield 47, 3), (175, .iload_n 3, 1), (176, .iconst (-1), 1), (177, .iastore, 1), (178, .iload_n 3, 1), (179, .iload 4, 2), (181, .ifCond .eq 7, 3), (184, .iconst 1, 1), (185, .goto 4, 3), (188, .iconst (-1), 1), (189, .iadd, 1), (190, .istore_n 3, 1), (191, .goto (-163), 3), (194, .iload_n 3, 1), (195, .aload_n 0, 1), (196, .getfield 109, 3), (199, .if_icmp .ne 7, 3), (202, .iconst 1, 1), (203, .goto 4, 3), (206, .iconst 0, 1), (207, .ireturn, 1)]
def mt_X7_soonest : List (Nat × Instr × Nat) := [(0, .iload_n 1, 1), (1, .iconst (-1), 1), (2, .if_icmp .eq 13, 3), (5, .aload_n 0, 1), (6, .iload_n 1, 1), (7, .invokevirtual 165, 3), (10, .ifCond .ne 5, 3), (13, .iconst (-1), 1), (14, .ireturn, 1), (15, .aload_n 0, 1), (16, .getfield 109, 3), (19, .ifCond .ne 6, 3), (22, .bipush (-9), 2), (24, .ireturn, 1), (25, .aload_n 0, 1), (26, .invokevirtual 176, 3), (29, .iconst 0, 1), (30, .istore_n 2, 1), (31, .aload_n 0, 1), (32, .iconst 1, 1), (33, .aload_n 0, 1), (34, .getfield 109, 3), (37, .ishl, 1), (38, .iconst 1, 1), (39, .isub, 1), (40, .iload_n 2, 1), (41, .invokevirtual 197, 3), (44, .ifCond .ne 9, 3), (47, .iinc 2 1, 3), (50, .goto (-19), 3), (53, .iload_n 1, 1), (54, .iconst (-1), 1), (55, .if_icmp .ne 7, 3), (58, .iload_n 2, 1), (59, .goto 9, 3), (62, .aload_n 0, 1), (63, .getfield 47, 3), (66, .iload_n 1, 1), (67, .iaload, 1), (68, .ireturn, 1)]
def mt_X7_alone : List (Nat × Instr × Nat) := [(0, .iload_n 1, 1), (1, .iconst (-1), 1), (2, .if_icmp .eq 13, 3), (5, .aload_n 0, 1), (6, .iload_n 1, 1), (7, .invokevirtual 165, 3), (10, .ifCond .ne 5, 3), (13, .iconst (-1), 1), (14, .ireturn, 1), (15, .aload_n 0, 1), (16, .invokevirtual 176, 3), (19, .bipush (-9), 2), (21, .istore_n 2, 1), (22, .iconst 0, 1), (23, .istore_n 3, 1), (24, .iload_n 3, 1), (25, .aload_n 0, 1), (26, .getfield 109, 3), (29, .if_icmp .ge 66, 3), (32, .aload_n 0, 1), (33, .getfield 47, 3), (36, .iload_n 3, 1), (37, .iconst 0, 1), (38, .iastore, 1), (39, .aload_n 0, 1), (40, .iconst (-1), 1), (41, .iload_n 3, 1), (42, .aload_n 0, 1), (43, .getfield 47, 3), (46, .iload_n 3, 1), (47, .iaload, 1), (48, .iload_n 3, 1), (49, .invokevirtual 191, 3), (52, .ifCond .ne 16, 3), (55, .aload_n 0, 1), (56, .getfield 47, 3), (59, .iload_n 3, 1), (60, .dup2, 1), (61, .iaload, 1), (62, .iconst 1, 1), (63, .iadd, 1), (64, .iastore, 1), (65, .goto (-26), 3), (68, .aload_n 0, 1), (69, .getfield 47, 3), (72, .iload_n 3, 1), (73, .iaload, 1), (74, .iload_n 2, 1), (75, .if_icmp .le 12, 3), (78, .aload_n 0, 1), (79, .getfield 47, 3), (82, .iload_n 3, 1), (83, .iaload, 1), (84, .goto 4, 3), (87, .iload_n 2, 1), (88, .istore_n 2, 1), (89, .iinc 3 1, 3), (92, .goto (-68), 3), (95, .iload_n 1, 1), (96, .iconst (-1), 1), (97, .if_icmp .ne 7, 3), (100, .iload_n 2, 1), (101, .goto 9, 3), (104, .aload_n 0, 1), (105, .getfield 47, 3), (108, .iload_n 1, 1), (109, .iaload, 1), (110, .ireturn, 1)]
def mt_X7_sunset : List (Nat × Instr × Nat) := [(0, .iload_n 1, 1), (1, .iconst 0, 1), (2, .bipush 20, 2), (4, .invokestatic 62, 3), (7, .ifCond .ne 6, 3), (10, .bipush (-2), 2), (12, .ireturn, 1), (13, .aload_n 0, 1), (14, .invokevirtual 176, 3), (17, .iconst 0, 1), (18, .istore_n 2, 1), (19, .iconst 1, 1), (20, .istore_n 3, 1), (21, .iload_n 3, 1), (22, .iconst 1, 1), (23, .aload_n 0, 1), (24, .getfield 109, 3), (27, .ishl, 1), (28, .if_icmp .ge 35, 3), (31, .iload_n 3, 1), (32, .invokestatic 182, 3), (35, .iload_n 2, 1), (36, .invokestatic 182, 3), (39, .if_icmp .le 16, 3), (42, .aload_n 0, 1), (43, .iload_n 3, 1), (44, .iload_n 1, 1), (45, .invokevirtual 197, 3), (48, .ifCond .eq 7, 3), (51, .iload_n 3, 1), (52, .goto 4, 3), (55, .iload_n 2, 1), (56, .istore_n 2, 1), (57, .iinc 3 1, 3), (60, .goto (-39), 3), (63, .iload_n 2, 1), (64, .ireturn, 1)]
def mt_X7_reed : List (Nat × Instr × Nat) := [(0, .aload_n 0, 1), (1, .iload_n 1, 1), (2, .invokevirtual 129, 3), (5, .ifCond .ne 5, 3), (8, .iconst (-1), 1), (9, .ireturn, 1), (10, .iload_n 2, 1), (11, .iconst 0, 1), (12, .bipush 99, 2), (14, .invokestatic 62, 3), (17, .ifCond .ne 6, 3), (20, .bipush (-2), 2), (22, .ireturn, 1), (23, .aload_n 0, 1), (24, .getfield 19, 3), (27, .iload_n 1, 1), (28, .baload, 1), (29, .ifCond .ne 6, 3), (32, .bipush (-3), 2), (34, .ireturn, 1), (35, .aload_n 0, 1), (36, .getfield 112, 3), (39, .bipush 6, 2), (41, .if_icmp .ne 6, 3), (44, .bipush (-4), 2), (46, .ireturn, 1), (47, .aload_n 0, 1), (48, .getfield 50, 3), (51, .aload_n 0, 1), (52, .getfield 112, 3), (55, .iload_n 1, 1), (56, .iastore, 1), (57, .aload_n 0, 1), (58, .getfield 53, 3), (61, .aload_n 0, 1), (62, .getfield 112, 3), (65, .iload_n 2, 1), (66, .iastore, 1), (67, .aload_n 0, 1), (68, .dup, 1), (69, .getfield 112, 3), (72, .iconst 1, 1), (73, .iadd, 1), (74, .putfield 112, 3), (77, .aload_n 0, 1), (78, .getfield 112, 3), (81, .iconst 1, 1), (82, .isub, 1), (83, .ireturn, 1)]
def mt_X7_pull : List (Nat × Instr × Nat) := [(0, .iload_n 1, 1), (1, .iconst 0, 1), (2, .aload_n 0, 1), (3, .getfield 112, 3), (6, .invokestatic 62, 3), (9, .ifCond .ne 6, 3), (12, .bipush (-2), 2), (14, .ireturn, 1), (15, .aload_n 0, 1), (16, .dup, 1), (17, .getfield 112, 3), (20, .iload_n 1, 1), (21, .isub, 1), (22, .putfield 112, 3), (25, .aload_n 0, 1), (26, .getfield 112, 3), (29, .ireturn, 1)]
def mt_X7_doesFit : List (Nat × Instr × Nat) := [(0, .iconst 0, 1), (1, .istore 4, 2), (3, .iload 4, 2), (5, .aload_n 0, 1), (6, .getfield 112, 3), (9, .if_icmp .ge 36, 3), (12, .aload_n 0, 1), (13, .iload_n 1, 1), (14, .iload_n 2, 1), (15, .aload_n 0, 1), (16, .getfield 50, 3), (19, .iload 4, 2), (21, .iaload, 1), (22, .aload_n 0, 1), (23, .getfield 53, 3), (26, .iload 4, 2), (28, .iaload, 1), (29, .iload_n 3, 1), (30, .isub, 1), (31, .invokevirtual 141, 3), (34, .ifCond .ne 5, 3), (37, .iconst 0, 1), (38, .ireturn, 1), (39, .iinc 4 1, 3), (42, .goto (-39), 3), (45, .iconst 1, 1), (46, .ireturn, 1)]
def mt_X7_fits : List (Nat × Instr × Nat) := [(0, .iload_n 1, 1), (1, .iconst 0, 1), (2, .iconst 2, 1), (3, .invokestatic 62, 3), (6, .ifCond .ne 6, 3), (9, .bipush (-2), 2), (11, .ireturn, 1), (12, .iload_n 2, 1), (13, .iconst (-1), 1), (14, .if_icmp .ge 5, 3), (17, .iconst (-1), 1), (18, .ireturn, 1), (19, .iconst 0, 1), (20, .istore_n 3, 1), (21, .iconst 0, 1), (22, .istore 4, 2), (24, .iload 4, 2), (26, .aload_n 0, 1), (27, .invokevirtual 72, 3), (30, .if_icmp .ge 64, 3), (33, .iconst 0, 1), (34, .istore 5, 2), (36, .iload 5, 2), (38, .bipush 99, 2), (40, .if_icmp .gt 48, 3), (43, .aload_n 0, 1), (44, .getfield 19, 3), (47, .iload 4, 2), (49, .baload, 1), (50, .ifCond .eq 38, 3), (53, .aload_n 0, 1), (54, .iload_n 1, 1), (55, .iload 4, 2), (57, .iload 5, 2), (59, .invokevirtual 200, 3), (62, .ifCond .eq 20, 3), (65, .iload_n 3, 1), (66, .iload_n 2, 1), (67, .if_icmp .ne 12, 3), (70, .bipush 100, 2), (72, .iload 4, 2), (74, .imul, 1), (75, .iload 5, 2), (77, .iadd, 1), (78, .ireturn, 1), (79, .iinc 3 1, 3), (82, .iinc 5 1, 3), (85, .goto (-49), 3), (88, .iinc 4 1, 3), (91, .goto (-67), 3), (94, .iload_n 2, 1), (95, .iconst (-1), 1), (96, .if_icmp .ne 7, 3), (99, .iload_n 3, 1), (100, .goto 5, 3), (103, .bipush (-9), 2), (105, .ireturn, 1)]
def mt_X7_dig : List (Nat × Instr × Nat) := [(0, .iload_n 1, 1), (1, .iconst 0, 1), (2, .iconst 1, 1), (3, .invokestatic 62, 3), (6, .ifCond .ne 6, 3), (9, .bipush (-2), 2), (11, .ireturn, 1), (12, .bipush (-9), 2), (14, .istore_n 2, 1), (15, .aload_n 0, 1), (16, .invokevirtual 188, 3), (19, .invokestatic 182, 3), (22, .istore_n 3, 1), (23, .iconst 0, 1), (24, .istore 4, 2), (26, .iload 4, 2), (28, .aload_n 0, 1), (29, .invokevirtual 72, 3), (32, .if_icmp .ge 60, 3), (35, .aload_n 0, 1), (36, .getfield 19, 3), (39, .iload 4, 2), (41, .baload, 1), (42, .ifCond .ne 44, 3), (45, .aload_n 0, 1), (46, .getfield 19, 3), (49, .iload 4, 2), (51, .iconst 1, 1), (52, .bastore, 1), (53, .aload_n 0, 1), (54, .invokevirtual 103, 3), (57, .aload_n 0, 1), (58, .invokevirtual 188, 3), (61, .invokestatic 182, 3), (64, .istore 5, 2), (66, .aload_n 0, 1), (67, .getfield 19, 3), (70, .iload 4, 2), (72, .iconst 0, 1), (73, .bastore, 1), (74, .iload 5, 2), (76, .iload_n 3, 1), (77, .if_icmp .le 9, 3), (80, .iload 5, 2), (82, .istore_n 3, 1), (83, .iload 4, 2), (85, .istore_n 2, 1), (86, .iinc 4 1, 3), (89, .goto (-63), 3), (92, .aload_n 0, 1), (93, .invokevirtual 103, 3), (96, .iload_n 1, 1), (97, .ifCond .ne 7, 3), (100, .iload_n 2, 1), (101, .goto 4, 3), (104, .iload_n 3, 1), (105, .ireturn, 1)]
def mt_X7_sheet : List (Nat × Instr × Nat) := [(0, .aload_n 0, 1), (1, .iconst 0, 1), (2, .putfield 56, 3), (5, .iload_n 1, 1), (6, .invokestatic 79, 3), (9, .ifCond .ne 5, 3), (12, .iconst (-1), 1), (13, .ireturn, 1), (14, .iload_n 2, 1), (15, .invokestatic 83, 3), (18, .ifCond .eq 9, 3), (21, .iload_n 3, 1), (22, .bipush 60, 2), (24, .if_icmp .le 6, 3), (27, .bipush (-2), 2), (29, .ireturn, 1), (30, .iload_n 3, 1), (31, .ifCond .ge 9, 3), (34, .aload_n 0, 1), (35, .iconst 4, 1), (36, .invokevirtual 90, 3), (39, .ireturn, 1), (40, .aload_n 0, 1), (41, .getfield 9, 3), (44, .iload_n 1, 1), (45, .iload_n 2, 1), (46, .iastore, 1), (47, .aload_n 0, 1), (48, .getfield 13, 3), (51, .iload_n 1, 1), (52, .iload_n 3, 1), (53, .iastore, 1), (54, .iconst 0, 1), (55, .istore 4, 2), (57, .iload 4, 2), (59, .bipush 60, 2), (61, .if_icmp .ge 22, 3), (64, .aload_n 0, 1), (65, .getfield 16, 3), (68, .bipush 60, 2), (70, .iload_n 1, 1), (71, .imul, 1), (72, .iload 4, 2), (74, .iadd, 1), (75, .iconst 0, 1), (76, .iastore, 1), (77, .iinc 4 1, 3), (80, .goto (-23), 3), (83, .iconst 1, 1), (84, .ireturn, 1)]
def mt_X7_lose : List (Nat × Instr × Nat) := [(0, .iload_n 1, 1), (1, .invokestatic 79, 3), (4, .ifCond .ne 5, 3), (7, .iconst (-1), 1), (8, .ireturn, 1), (9, .aload_n 0, 1), (10, .getfield 9, 3), (13, .iload_n 1, 1), (14, .iaload, 1), (15, .bipush (-9), 2), (17, .if_icmp .ne 7, 3), (20, .iconst 0, 1), (21, .goto 4, 3), (24, .iconst 1, 1), (25, .istore_n 2, 1), (26, .aload_n 0, 1), (27, .getfield 9, 3), (30, .iload_n 1, 1), (31, .bipush (-9), 2), (33, .iastore, 1), (34, .iload_n 2, 1), (35, .ireturn, 1)]
def mt_X7_put : List (Nat × Instr × Nat) := [(0, .aload_n 0, 1), (1, .iconst 0, 1), (2, .putfield 56, 3), (5, .iload_n 1, 1), (6, .invokestatic 79, 3), (9, .ifCond .ne 5, 3), (12, .iconst (-1), 1), (13, .ireturn, 1), (14, .aload_n 0, 1), (15, .getfield 9, 3), (18, .iload_n 1, 1), (19, .iaload, 1), (20, .bipush (-9), 2), (22, .if_icmp .ne 9, 3), (25, .aload_n 0, 1), (26, .iconst 1, 1), (27, .invokevirtual 90, 3), (30, .ireturn, 1), (31, .iload_n 2, 1), (32, .iconst 0, 1), (33, .aload_n 0, 1), (34, .getfield 13, 3), (37, .iload_n 1, 1), (38, .iaload, 1), (39, .iconst 1, 1), (40, .isub, 1), (41, .invokestatic 62, 3), (44, .ifCond .ne 9, 3), (47, .aload_n 0, 1), (48, .iconst 3, 1), (49, .invokevirtual 90, 3), (52, .ireturn, 1), (53, .aload_n 0, 1), (54, .getfield 16, 3), (57, .bipush 60, 2), (59, .iload_n 1, 1), (60, .imul, 1), (61, .iload_n 2, 1), (62, .iadd, 1), (63, .aload_n 0, 1), (64, .getfield 9, 3), (67, .iload_n 1, 1), (68, .iaload, 1), (69, .ifCond .ne 8, 3), (72, .iload_n 3, 1), (73, .i2b, 1), (74, .goto 19, 3), (77, .aload_n 0, 1), (78, .getfield 9, 3), (81, .iload_n 1, 1), (82, .iaload, 1), (83, .iconst 1, 1), (84, .if_icmp .ne 8, 3), (87, .iload_n 3, 1), (88, .i2s, 1), (89, .goto 4, 3), (92, .iload_n 3, 1), (93, .iastore, 1), (94, .iconst 1, 1), (95, .ireturn, 1)]
def mt_X7_cell : List (Nat × Instr × Nat) := [(0, .aload_n 0, 1), (1, .iconst 0, 1), (2, .putfield 56, 3), (5, .iload_n 1, 1), (6, .invokestatic 79, 3), (9, .ifCond .eq 10, 3), (12, .iload_n 3, 1), (13, .invokestatic 83, 3), (16, .ifCond .ne 7, 3), (19, .ldc2_w 60, 3), (22, .lreturn, 1), (23, .aload_n 0, 1), (24, .getfield 9, 3), (27, .iload_n 1, 1), (28, .iaload, 1), (29, .bipush (-9), 2), (31, .if_icmp .eq 19, 3), (34, .aload_n 0, 1), (35, .getfield 9, 3), (38, .iload_n 1, 1), (39, .iaload, 1), (40, .iload_n 3, 1), (41, .if_icmp .eq 9, 3), (44, .aload_n 0, 1), (45, .iconst 2, 1), (46, .invokevirtual 203, 3), (49, .lreturn, 1), (50, .aload_n 0, 1), (51, .getfield 9, 3), (54, .iload_n 1, 1), (55, .iaload, 1), (56, .bipush (-9), 2), (58, .if_icmp .ne 9, 3), (61, .aload_n 0, 1), (62, .iconst 1, 1), (63, .invokevirtual 203, 3), (66, .lreturn, 1), (67, .iload_n 2, 1), (68, .iconst 0, 1), (69, .aload_n 0, 1), (70, .getfield 13, 3), (73, .iload_n 1, 1), (74, .iaload, 1), (75, .iconst 1, 1), (76, .isub, 1), (77, .invokestatic 62, 3), (80, .ifCond .ne 9, 3), (83, .aload_n 0, 1), (84, .iconst 3, 1), (85, .invokevirtual 203, 3), (88, .lreturn, 1), (89, .aload_n 0, 1), (90, .getfield 16, 3), (93, .bipush 60, 2), (95, .iload_n 1, 1), (96, .imul, 1), (97, .iload_n 2, 1), (98, .iadd, 1), (99, .iaload, 1), (100, .i2l, 1), (101, .lreturn, 1)]
def mt_X7_copy : List (Nat × Instr × Nat) := [(0, .aload_n 0, 1), (1, .iconst 0, 1), (2, .putfield 56, 3), (5, .iload_n 1, 1), (6, .invokestatic 79, 3), (9, .ifCond .eq 10, 3), (12, .iload_n 3, 1), (13, .invokestatic 79, 3), (16, .ifCond .ne 5, 3), (19, .iconst (-1), 1), (20, .ireturn, 1), (21, .aload_n 0, 1), (22, .getfield 9, 3), (25, .iload_n 1, 1), (26, .iaload, 1), (27, .bipush (-9), 2), (29, .if_icmp .eq 14, 3), (32, .aload_n 0, 1), (33, .getfield 9, 3), (36, .iload_n 3, 1), (37, .iaload, 1), (38, .bipush (-9), 2), (40, .if_icmp .ne 9, 3), (43, .aload_n 0, 1), (44, .iconst 1, 1), (45, .invokevirtual 90, 3), (48, .ireturn, 1), (49, .aload_n 0, 1), (50, .getfield 9, 3), (53, .iload_n 1, 1), (54, .iaload, 1), (55, .aload_n 0, 1), (56, .getfield 9, 3), (59, .iload_n 3, 1), (60, .iaload, 1), (61, .if_icmp .eq 9, 3), (64, .aload_n 0, 1), (65, .iconst 2, 1), (66, .invokevirtual 90, 3), (69, .ireturn, 1), (70, .iload_n 2, 1), (71, .ifCond .lt 38, 3), (74, .iload 4, 2), (76, .ifCond .lt 33, 3), (79, .iload 5, 2), (81, .ifCond .lt 28, 3), (84, .iload_n 2, 1), (85, .aload_n 0, 1), (86, .getfield 13, 3), (89, .iload_n 1, 1), (90, .iaload, 1), (91, .if_icmp .gt 18, 3), (94, .iload 4, 2), (96, .aload_n 0, 1), (97, .getfield 13, 3), (100, .iload_n 3, 1), (101, .iaload, 1), (102, .if_icmp .gt 7, 3), (105, .iconst 1, 1), (106, .goto 4, 3), (109, .iconst 0, 1), (110, .istore 6, 2), (112, .iload 6, 2), (114, .ifCond .eq 30, 3), (117, .iload 5, 2), (119, .aload_n 0, 1), (120, .getfield 13, 3), (123, .iload_n 1, 1), (124, .iaload, 1), (125, .iload_n 2, 1), (126, .isub, 1), (127, .if_icmp .gt 17, 3), (130, .iload 5, 2), (132, .aload_n 0, 1), (133, .getfield 13, 3), (136, .iload_n 3, 1), (137, .iaload, 1), (138, .iload 4, 2), (140, .isub, 1), (141, .if_icmp .le 9, 3), (144, .aload_n 0, 1), (145, .iconst 3, 1), (146, .invokevirtual 90, 3), (149, .ireturn, 1), (150, .iload_n 2, 1), (151, .iload 4, 2), (153, .if_icmp .ge 7, 3), (156, .iconst 1, 1), (157, .goto 4, 3), (160, .iconst 0, 1), (161, .istore 7, 2), (163, .iconst 0, 1), (164, .istore 8, 2), (166, .iload 8, 2), (168, .iload 5, 2), (170, .if_icmp .ge 57, 3), (173, .iload 7, 2), (175, .ifCond .eq 13, 3), (178, .iload 5, 2), (180, .iconst 1, 1), (181, .isub, 1), (182, .iload 8, 2), (184, .isub, 1), (185, .goto 5, 3), (188, .iload 8, 2), (190, .istore 9, 2), (192, .aload_n 0, 1), (193, .getfield 16, 3), (196, .bipush 60, 2), (198, .iload_n 3, 1), (199, .imul, 1), (200, .iload 4, 2), (202, .iadd, 1), (203, .iload 9, 2), (205, .iadd, 1), (206, .aload_n 0, 1), (207, .getfield 16, 3), (210, .bipush 60, 2), (212, .iload_n 1, 1), (213, .imul, 1), (214, .iload_n 2, 1), (215, .iadd, 1), (216, .iload 9, 2), (218, .iadd, 1), (219, .iaload, 1), (220, .iastore, 1), (221, .iinc 8 1, 3), (224, .goto (-58), 3), (227, .iload 5, 2), (229, .ireturn, 1)]
def mt_X7_begins : List (Nat × Instr × Nat) := [(0, .aload_n 0, 1), (1, .bipush 31, 2), (3, .aload_n 0, 1), (4, .getfield 207, 3), (7, .imul, 1), (8, .iload_n 1, 1), (9, .iadd, 1), (10, .putfield 207, 3), (13, .return_, 1)]
def mt_X7_tell : List (Nat × Instr × Nat) := [(0, .aload_n 0, 1), (1, .iload_n 1, 1), (2, .invokevirtual 165, 3), (5, .ifCond .ne 5, 3), (8, .iconst (-1), 1), (9, .ireturn, 1), (10, .aload_n 0, 1), (11, .getfield 41, 3), (14, .iload_n 1, 1), (15, .iaload, 1), (16, .istore_n 2, 1), (17, .aload_n 0, 1), (18, .getfield 38, 3), (21, .iload_n 1, 1), (22, .iaload, 1), (23, .lookupswitch 67 #[(1, 25), (2, 40)], 25), (48, .aload_n 0, 1), (49, .iconst 2, 1), (50, .invokevirtual 210, 3), (53, .aload_n 0, 1), (54, .iconst 1, 1), (55, .invokevirtual 210, 3), (58, .iload_n 2, 1), (59, .bipush 100, 2), (61, .iadd, 1), (62, .ireturn, 1), (63, .aload_n 0, 1), (64, .iconst 3, 1), (65, .invokevirtual 210, 3), (68, .aload_n 0, 1), (69, .iconst 2, 1), (70, .invokevirtual 210, 3), (73, .aload_n 0, 1), (74, .iconst 1, 1), (75, .invokevirtual 210, 3), (78, .aload_n 0, 1), (79, .iconst 1, 1), (80, .invokevirtual 210, 3), (83, .iconst 2, 1), (84, .iload_n 2, 1), (85, .imul, 1), (86, .bipush 100, 2), (88, .iadd, 1), (89, .ireturn, 1), (90, .aload_n 0, 1), (91, .iconst 1, 1), (92, .invokevirtual 210, 3), (95, .iload_n 2, 1), (96, .ireturn, 1)]
def mt_X7_make : List (Nat × Instr × Nat) := [(0, .aload_n 0, 1), (1, .iload_n 1, 1), (2, .invokevirtual 165, 3), (5, .ifCond .ne 5, 3), (8, .iconst (-1), 1), (9, .ireturn, 1), (10, .aload_n 0, 1), (11, .aload_n 0, 1), (12, .getfield 38, 3), (15, .iload_n 1, 1), (16, .iaload, 1), (17, .iconst 2, 1), (18, .if_icmp .ne 7, 3), (21, .iconst 5, 1), (22, .goto 4, 3), (25, .iconst 4, 1), (26, .invokevirtual 210, 3), (29, .aload_n 0, 1), (30, .getfield 38, 3), (33, .iload_n 1, 1), (34, .iaload, 1), (35, .iconst 2, 1), (36, .if_icmp .ne 8, 3), (39, .bipush 80, 2), (41, .goto 4, 3), (44, .iload_n 1, 1), (45, .ireturn, 1)]
def mt_X7_as : List (Nat × Instr × Nat) := [(0, .aload_n 0, 1), (1, .iconst 0, 1), (2, .putfield 56, 3), (5, .aload_n 0, 1), (6, .iload_n 1, 1), (7, .invokevirtual 165, 3), (10, .ifCond .ne 5, 3), (13, .iconst (-1), 1), (14, .ireturn, 1), (15, .iload_n 2, 1), (16, .iconst 0, 1), (17, .iconst 2, 1), (18, .invokestatic 62, 3), (21, .ifCond .ne 6, 3), (24, .bipush (-2), 2), (26, .ireturn, 1), (27, .aload_n 0, 1), (28, .getfield 38, 3), (31, .iload_n 1, 1), (32, .iaload, 1), (33, .iload_n 2, 1), (34, .if_icmp .lt 7, 3), (37, .iconst 1, 1), (38, .goto 8, 3), (41, .aload_n 0, 1), (42, .iconst 2, 1), (43, .invokevirtual 90, 3), (46, .ireturn, 1)]
def mt_X7_trace : List (Nat × Instr × Nat) := [(0, .aload_n 0, 1), (1, .getfield 207, 3), (4, .ireturn, 1)]
def mt_X7_fault : List (Nat × Instr × Nat) := [(0, .aload_n 0, 1), (1, .getfield 56, 3), (4, .ireturn, 1)]
def mt_X7_many : List (Nat × Instr × Nat) := [(0, .iload_n 1, 1), (1, .tableswitch 60 0 4 #[35, 40, 45, 50, 55], 35), (36, .aload_n 0, 1), (37, .invokevirtual 72, 3), (40, .ireturn, 1), (41, .aload_n 0, 1), (42, .getfield 69, 3), (45, .ireturn, 1), (46, .aload_n 0, 1), (47, .getfield 106, 3), (50, .ireturn, 1), (51, .aload_n 0, 1), (52, .getfield 109, 3), (55, .ireturn, 1), (56, .aload_n 0, 1), (57, .getfield 112, 3), (60, .ireturn, 1), (61, .bipush (-2), 2), (63, .ireturn, 1)]
def mt_J6_bitCount_0f7a4 : List (Nat × Instr × Nat) := [(0, .iload_n 0, 1), (1, .iload_n 0, 1), (2, .iconst 1, 1), (3, .iushr, 1), (4, .ldc_w 265, 3), (7, .iand, 1), (8, .isub, 1), (9, .istore_n 0, 1), (10, .iload_n 0, 1), (11, .ldc_w 266, 3), (14, .iand, 1), (15, .iload_n 0, 1), (16, .iconst 2, 1), (17, .iushr, 1), (18, .ldc_w 266, 3), (21, .iand, 1), (22, .iadd, 1), (23, .istore_n 0, 1), (24, .iload_n 0, 1), (25, .iload_n 0, 1), (26, .iconst 4, 1), (27, .iushr, 1), (28, .iadd, 1), (29, .ldc_w 267, 3), (32, .iand, 1), (33, .istore_n 0, 1), (34, .iload_n 0, 1), (35, .iload_n 0, 1), (36, .bipush 8, 2), (38, .iushr, 1), (39, .iadd, 1), (40, .istore_n 0, 1), (41, .iload_n 0, 1), (42, .iload_n 0, 1), (43, .bipush 16, 2), (45, .iushr, 1), (46, .iadd, 1), (47, .istore_n 0, 1), (48, .iload_n 0, 1), (49, .bipush 63, 2), (51, .iand, 1), (52, .ireturn, 1)]
def mt_J13_bitCount_95d88 : List (Nat × Instr × Nat) := [(0, .lload_n 0, 1), (1, .lload_n 0, 1), (2, .iconst 1, 1), (3, .lushr, 1), (4, .ldc2_w 314, 3), (7, .land, 1), (8, .lsub, 1), (9, .lstore_n 0, 1), (10, .lload_n 0, 1), (11, .ldc2_w 316, 3), (14, .land, 1), (15, .lload_n 0, 1), (16, .iconst 2, 1), (17, .lushr, 1), (18, .ldc2_w 316, 3), (21, .land, 1), (22, .ladd, 1), (23, .lstore_n 0, 1), (24, .lload_n 0, 1), (25, .lload_n 0, 1), (26, .iconst 4, 1), (27, .lushr, 1), (28, .ladd, 1), (29, .ldc2_w 318, 3), (32, .land, 1), (33, .lstore_n 0, 1), (34, .lload_n 0, 1), (35, .lload_n 0, 1), (36, .bipush 8, 2), (38, .lushr, 1), (39, .ladd, 1), (40, .lstore_n 0, 1), (41, .lload_n 0, 1), (42, .lload_n 0, 1), (43, .bipush 16, 2), (45, .lushr, 1), (46, .ladd, 1), (47, .lstore_n 0, 1), (48, .lload_n 0, 1), (49, .lload_n 0, 1), (50, .bipush 32, 2), (52, .lushr, 1), (53, .ladd, 1), (54, .lstore_n 0, 1), (55, .lload_n 0, 1), (56, .l2i, 1), (57, .bipush 127, 2), (59, .iand, 1), (60, .ireturn, 1)]
def mt_J7_fill_d0a16 : List (Nat × Instr × Nat) := [(0, .iconst 0, 1), (1, .istore_n 3, 1), (2, .aload_n 0, 1), (3, .arraylength, 1), (4, .istore 4, 2), (6, .iload_n 3, 1), (7, .iload 4, 2), (9, .if_icmp .ge 13, 3), (12, .aload_n 0, 1), (13, .iload_n 3, 1), (14, .lload_n 1, 1), (15, .lastore, 1), (16, .iinc 3 1, 3), (19, .goto (-13), 3), (22, .return_, 1)]
def mt_J7_fill_53178 : List (Nat × Instr × Nat) := [(0, .iconst 0, 1), (1, .istore_n 2, 1), (2, .aload_n 0, 1), (3, .arraylength, 1), (4, .istore_n 3, 1), (5, .iload_n 2, 1), (6, .iload_n 3, 1), (7, .if_icmp .ge 13, 3), (10, .aload_n 0, 1), (11, .iload_n 2, 1), (12, .iload_n 1, 1), (13, .iastore, 1), (14, .iinc 2 1, 3), (17, .goto (-12), 3), (20, .return_, 1)]
def mt_L_law_0 : List (Nat × Instr × Nat) := [(0, .new 7, 3), (3, .dup, 1), (4, .invokespecial 9, 3), (7, .astore_n 1, 1), (8, .new 10, 3), (11, .dup, 1), (12, .invokespecial 12, 3), (15, .astore_n 2, 1), (16, .iconst 0, 1), (17, .istore_n 3, 1), (18, .iload_n 3, 1), (19, .aload_n 0, 1), (20, .arraylength, 1), (21, .bipush 6, 2), (23, .isub, 1), (24, .if_icmp .gt 1126, 3), (27, .aload_n 0, 1), (28, .iload_n 3, 1), (29, .iaload, 1), (30, .bipush 31, 2), (32, .iand, 1), (33, .tableswitch 1111 0 31 #[143, 196, 219, 252, 295, 328, 351, 385, 428, 451, 484, 517, 540, 573, 586, 609, 632, 655, 688, 711, 744, 767, 810, 833, 876, 920, 983, 1006, 1029, 1062, 1075, 1088], 143), (176, .aload_n 1, 1), (177, .aload_n 0, 1), (178, .iload_n 3, 1), (179, .iconst 1, 1), (180, .iadd, 1), (181, .iaload, 1), (182, .aload_n 0, 1), (183, .iload_n 3, 1), (184, .iconst 2, 1), (185, .iadd, 1), (186, .iaload, 1), (187, .aload_n 0, 1), (188, .iload_n 3, 1), (189, .iconst 3, 1), (190, .iadd, 1), (191, .iaload, 1), (192, .aload_n 0, 1), (193, .iload_n 3, 1), (194, .iconst 4, 1), (195, .iadd, 1), (196, .iaload, 1), (197, .invokevirtual 13, 3), (200, .aload_n 2, 1), (201, .aload_n 0, 1), (202, .iload_n 3, 1), (203, .iconst 1, 1), (204, .iadd, 1), (205, .iaload, 1)]
def mt_L_law_1 : List (Nat × Instr × Nat) := [(206, .aload_n 0, 1), (207, .iload_n 3, 1), (208, .iconst 2, 1), (209, .iadd, 1), (210, .iaload, 1), (211, .aload_n 0, 1), (212, .iload_n 3, 1), (213, .iconst 3, 1), (214, .iadd, 1), (215, .iaload, 1), (216, .aload_n 0, 1), (217, .iload_n 3, 1), (218, .iconst 4, 1), (219, .iadd, 1), (220, .iaload, 1), (221, .invokevirtual 17, 3), (224, .if_icmp .eq 920, 3), (227, .iconst 0, 1), (228, .ireturn, 1), (229, .aload_n 1, 1), (230, .aload_n 0, 1), (231, .iload_n 3, 1), (232, .iconst 1, 1), (233, .iadd, 1), (234, .iaload, 1), (235, .invokevirtual 18, 3), (238, .aload_n 2, 1), (239, .aload_n 0, 1), (240, .iload_n 3, 1), (241, .iconst 1, 1), (242, .iadd, 1), (243, .iaload, 1), (244, .invokevirtual 22, 3), (247, .if_icmp .eq 897, 3), (250, .iconst 0, 1), (251, .ireturn, 1), (252, .aload_n 1, 1), (253, .aload_n 0, 1), (254, .iload_n 3, 1), (255, .iconst 1, 1), (256, .iadd, 1), (257, .iaload, 1), (258, .aload_n 0, 1), (259, .iload_n 3, 1), (260, .iconst 2, 1), (261, .iadd, 1), (262, .iaload, 1), (263, .invokevirtual 23, 3), (266, .aload_n 2, 1), (267, .aload_n 0, 1)]
def mt_L_law_2 : List (Nat × Instr × Nat) := [(268, .iload_n 3, 1), (269, .iconst 1, 1), (270, .iadd, 1), (271, .iaload, 1), (272, .aload_n 0, 1), (273, .iload_n 3, 1), (274, .iconst 2, 1), (275, .iadd, 1), (276, .iaload, 1), (277, .invokevirtual 27, 3), (280, .if_icmp .eq 864, 3), (283, .iconst 0, 1), (284, .ireturn, 1), (285, .aload_n 1, 1), (286, .aload_n 0, 1), (287, .iload_n 3, 1), (288, .iconst 1, 1), (289, .iadd, 1), (290, .iaload, 1), (291, .aload_n 0, 1), (292, .iload_n 3, 1), (293, .iconst 2, 1), (294, .iadd, 1), (295, .iaload, 1), (296, .aload_n 0, 1), (297, .iload_n 3, 1), (298, .iconst 3, 1), (299, .iadd, 1), (300, .iaload, 1), (301, .invokevirtual 28, 3), (304, .aload_n 2, 1), (305, .aload_n 0, 1), (306, .iload_n 3, 1), (307, .iconst 1, 1), (308, .iadd, 1), (309, .iaload, 1), (310, .aload_n 0, 1), (311, .iload_n 3, 1), (312, .iconst 2, 1), (313, .iadd, 1), (314, .iaload, 1), (315, .aload_n 0, 1), (316, .iload_n 3, 1), (317, .iconst 3, 1), (318, .iadd, 1), (319, .iaload, 1), (320, .invokevirtual 32, 3), (323, .if_icmp .eq 821, 3), (326, .iconst 0, 1), (327, .ireturn, 1)]
def mt_L_law_3 : List (Nat × Instr × Nat) := [(328, .aload_n 1, 1), (329, .aload_n 0, 1), (330, .iload_n 3, 1), (331, .iconst 1, 1), (332, .iadd, 1), (333, .iaload, 1), (334, .aload_n 0, 1), (335, .iload_n 3, 1), (336, .iconst 2, 1), (337, .iadd, 1), (338, .iaload, 1), (339, .invokevirtual 33, 3), (342, .aload_n 2, 1), (343, .aload_n 0, 1), (344, .iload_n 3, 1), (345, .iconst 1, 1), (346, .iadd, 1), (347, .iaload, 1), (348, .aload_n 0, 1), (349, .iload_n 3, 1), (350, .iconst 2, 1), (351, .iadd, 1), (352, .iaload, 1), (353, .invokevirtual 36, 3), (356, .if_icmp .eq 788, 3), (359, .iconst 0, 1), (360, .ireturn, 1), (361, .aload_n 1, 1), (362, .aload_n 0, 1), (363, .iload_n 3, 1), (364, .iconst 1, 1), (365, .iadd, 1), (366, .iaload, 1), (367, .invokevirtual 37, 3), (370, .aload_n 2, 1), (371, .aload_n 0, 1), (372, .iload_n 3, 1), (373, .iconst 1, 1), (374, .iadd, 1), (375, .iaload, 1), (376, .invokevirtual 40, 3), (379, .if_icmp .eq 765, 3), (382, .iconst 0, 1), (383, .ireturn, 1), (384, .aload_n 1, 1), (385, .aload_n 0, 1), (386, .iload_n 3, 1), (387, .iconst 1, 1), (388, .iadd, 1), (389, .iaload, 1)]
def mt_L_law_4 : List (Nat × Instr × Nat) := [(390, .aload_n 0, 1), (391, .iload_n 3, 1), (392, .iconst 2, 1), (393, .iadd, 1), (394, .iaload, 1), (395, .invokevirtual 41, 3), (398, .aload_n 2, 1), (399, .aload_n 0, 1), (400, .iload_n 3, 1), (401, .iconst 1, 1), (402, .iadd, 1), (403, .iaload, 1), (404, .aload_n 0, 1), (405, .iload_n 3, 1), (406, .iconst 2, 1), (407, .iadd, 1), (408, .iaload, 1), (409, .invokevirtual 45, 3), (412, .lcmp, 1), (413, .ifCond .eq 731, 3), (416, .iconst 0, 1), (417, .ireturn, 1), (418, .aload_n 1, 1), (419, .aload_n 0, 1), (420, .iload_n 3, 1), (421, .iconst 1, 1), (422, .iadd, 1), (423, .iaload, 1), (424, .aload_n 0, 1), (425, .iload_n 3, 1), (426, .iconst 2, 1), (427, .iadd, 1), (428, .iaload, 1), (429, .aload_n 0, 1), (430, .iload_n 3, 1), (431, .iconst 3, 1), (432, .iadd, 1), (433, .iaload, 1), (434, .invokevirtual 46, 3), (437, .aload_n 2, 1), (438, .aload_n 0, 1), (439, .iload_n 3, 1), (440, .iconst 1, 1), (441, .iadd, 1), (442, .iaload, 1), (443, .aload_n 0, 1), (444, .iload_n 3, 1), (445, .iconst 2, 1), (446, .iadd, 1), (447, .iaload, 1)]
def mt_L_law_5 : List (Nat × Instr × Nat) := [(448, .aload_n 0, 1), (449, .iload_n 3, 1), (450, .iconst 3, 1), (451, .iadd, 1), (452, .iaload, 1), (453, .invokevirtual 49, 3), (456, .if_icmp .eq 688, 3), (459, .iconst 0, 1), (460, .ireturn, 1), (461, .aload_n 1, 1), (462, .aload_n 0, 1), (463, .iload_n 3, 1), (464, .iconst 1, 1), (465, .iadd, 1), (466, .iaload, 1), (467, .invokevirtual 50, 3), (470, .aload_n 2, 1), (471, .aload_n 0, 1), (472, .iload_n 3, 1), (473, .iconst 1, 1), (474, .iadd, 1), (475, .iaload, 1), (476, .invokevirtual 53, 3), (479, .if_icmp .eq 665, 3), (482, .iconst 0, 1), (483, .ireturn, 1), (484, .aload_n 1, 1), (485, .aload_n 0, 1), (486, .iload_n 3, 1), (487, .iconst 1, 1), (488, .iadd, 1), (489, .iaload, 1), (490, .aload_n 0, 1), (491, .iload_n 3, 1), (492, .iconst 2, 1), (493, .iadd, 1), (494, .iaload, 1), (495, .invokevirtual 54, 3), (498, .aload_n 2, 1), (499, .aload_n 0, 1), (500, .iload_n 3, 1), (501, .iconst 1, 1), (502, .iadd, 1), (503, .iaload, 1), (504, .aload_n 0, 1), (505, .iload_n 3, 1), (506, .iconst 2, 1), (507, .iadd, 1), (508, .iaload, 1), (509, .invokevirtual 57, 3)]
def mt_L_law_6 : List (Nat × Instr × Nat) := [(512, .if_icmp .eq 632, 3), (515, .iconst 0, 1), (516, .ireturn, 1), (517, .aload_n 1, 1), (518, .aload_n 0, 1), (519, .iload_n 3, 1), (520, .iconst 1, 1), (521, .iadd, 1), (522, .iaload, 1), (523, .aload_n 0, 1), (524, .iload_n 3, 1), (525, .iconst 2, 1), (526, .iadd, 1), (527, .iaload, 1), (528, .invokevirtual 58, 3), (531, .aload_n 2, 1), (532, .aload_n 0, 1), (533, .iload_n 3, 1), (534, .iconst 1, 1), (535, .iadd, 1), (536, .iaload, 1), (537, .aload_n 0, 1), (538, .iload_n 3, 1), (539, .iconst 2, 1), (540, .iadd, 1), (541, .iaload, 1), (542, .invokevirtual 61, 3), (545, .if_icmp .eq 599, 3), (548, .iconst 0, 1), (549, .ireturn, 1), (550, .aload_n 1, 1), (551, .aload_n 0, 1), (552, .iload_n 3, 1), (553, .iconst 1, 1), (554, .iadd, 1), (555, .iaload, 1), (556, .invokevirtual 62, 3), (559, .aload_n 2, 1), (560, .aload_n 0, 1), (561, .iload_n 3, 1), (562, .iconst 1, 1), (563, .iadd, 1), (564, .iaload, 1), (565, .invokevirtual 65, 3), (568, .if_icmp .eq 576, 3), (571, .iconst 0, 1), (572, .ireturn, 1), (573, .aload_n 1, 1), (574, .aload_n 0, 1), (575, .iload_n 3, 1)]
def mt_L_law_7 : List (Nat × Instr × Nat) := [(576, .iconst 1, 1), (577, .iadd, 1), (578, .iaload, 1), (579, .aload_n 0, 1), (580, .iload_n 3, 1), (581, .iconst 2, 1), (582, .iadd, 1), (583, .iaload, 1), (584, .invokevirtual 66, 3), (587, .aload_n 2, 1), (588, .aload_n 0, 1), (589, .iload_n 3, 1), (590, .iconst 1, 1), (591, .iadd, 1), (592, .iaload, 1), (593, .aload_n 0, 1), (594, .iload_n 3, 1), (595, .iconst 2, 1), (596, .iadd, 1), (597, .iaload, 1), (598, .invokevirtual 69, 3), (601, .if_icmp .eq 543, 3), (604, .iconst 0, 1), (605, .ireturn, 1), (606, .aload_n 1, 1), (607, .invokevirtual 70, 3), (610, .aload_n 2, 1), (611, .invokevirtual 74, 3), (614, .if_icmp .eq 530, 3), (617, .iconst 0, 1), (618, .ireturn, 1), (619, .aload_n 1, 1), (620, .aload_n 0, 1), (621, .iload_n 3, 1), (622, .iconst 1, 1), (623, .iadd, 1), (624, .iaload, 1), (625, .invokevirtual 75, 3), (628, .aload_n 2, 1), (629, .aload_n 0, 1), (630, .iload_n 3, 1), (631, .iconst 1, 1), (632, .iadd, 1), (633, .iaload, 1), (634, .invokevirtual 78, 3), (637, .if_icmp .eq 507, 3), (640, .iconst 0, 1), (641, .ireturn, 1), (642, .aload_n 1, 1), (643, .aload_n 0, 1)]
def mt_L_law_8 : List (Nat × Instr × Nat) := [(644, .iload_n 3, 1), (645, .iconst 1, 1), (646, .iadd, 1), (647, .iaload, 1), (648, .invokevirtual 79, 3), (651, .aload_n 2, 1), (652, .aload_n 0, 1), (653, .iload_n 3, 1), (654, .iconst 1, 1), (655, .iadd, 1), (656, .iaload, 1), (657, .invokevirtual 82, 3), (660, .if_icmp .eq 484, 3), (663, .iconst 0, 1), (664, .ireturn, 1), (665, .aload_n 1, 1), (666, .aload_n 0, 1), (667, .iload_n 3, 1), (668, .iconst 1, 1), (669, .iadd, 1), (670, .iaload, 1), (671, .invokevirtual 83, 3), (674, .aload_n 2, 1), (675, .aload_n 0, 1), (676, .iload_n 3, 1), (677, .iconst 1, 1), (678, .iadd, 1), (679, .iaload, 1), (680, .invokevirtual 86, 3), (683, .if_icmp .eq 461, 3), (686, .iconst 0, 1), (687, .ireturn, 1), (688, .aload_n 1, 1), (689, .aload_n 0, 1), (690, .iload_n 3, 1), (691, .iconst 1, 1), (692, .iadd, 1), (693, .iaload, 1), (694, .aload_n 0, 1), (695, .iload_n 3, 1), (696, .iconst 2, 1), (697, .iadd, 1), (698, .iaload, 1), (699, .invokevirtual 87, 3), (702, .aload_n 2, 1), (703, .aload_n 0, 1), (704, .iload_n 3, 1), (705, .iconst 1, 1), (706, .iadd, 1), (707, .iaload, 1)]
def mt_L_law_9 : List (Nat × Instr × Nat) := [(708, .aload_n 0, 1), (709, .iload_n 3, 1), (710, .iconst 2, 1), (711, .iadd, 1), (712, .iaload, 1), (713, .invokevirtual 90, 3), (716, .if_icmp .eq 428, 3), (719, .iconst 0, 1), (720, .ireturn, 1), (721, .aload_n 1, 1), (722, .aload_n 0, 1), (723, .iload_n 3, 1), (724, .iconst 1, 1), (725, .iadd, 1), (726, .iaload, 1), (727, .invokevirtual 91, 3), (730, .aload_n 2, 1), (731, .aload_n 0, 1), (732, .iload_n 3, 1), (733, .iconst 1, 1), (734, .iadd, 1), (735, .iaload, 1), (736, .invokevirtual 94, 3), (739, .if_icmp .eq 405, 3), (742, .iconst 0, 1), (743, .ireturn, 1), (744, .aload_n 1, 1), (745, .aload_n 0, 1), (746, .iload_n 3, 1), (747, .iconst 1, 1), (748, .iadd, 1), (749, .iaload, 1), (750, .aload_n 0, 1), (751, .iload_n 3, 1), (752, .iconst 2, 1), (753, .iadd, 1), (754, .iaload, 1), (755, .invokevirtual 95, 3), (758, .aload_n 2, 1), (759, .aload_n 0, 1), (760, .iload_n 3, 1), (761, .iconst 1, 1), (762, .iadd, 1), (763, .iaload, 1), (764, .aload_n 0, 1), (765, .iload_n 3, 1), (766, .iconst 2, 1), (767, .iadd, 1), (768, .iaload, 1), (769, .invokevirtual 98, 3)]
def mt_L_law_10 : List (Nat × Instr × Nat) := [(772, .if_icmp .eq 372, 3), (775, .iconst 0, 1), (776, .ireturn, 1), (777, .aload_n 1, 1), (778, .aload_n 0, 1), (779, .iload_n 3, 1), (780, .iconst 1, 1), (781, .iadd, 1), (782, .iaload, 1), (783, .invokevirtual 99, 3), (786, .aload_n 2, 1), (787, .aload_n 0, 1), (788, .iload_n 3, 1), (789, .iconst 1, 1), (790, .iadd, 1), (791, .iaload, 1), (792, .invokevirtual 102, 3), (795, .if_icmp .eq 349, 3), (798, .iconst 0, 1), (799, .ireturn, 1), (800, .aload_n 1, 1), (801, .aload_n 0, 1), (802, .iload_n 3, 1), (803, .iconst 1, 1), (804, .iadd, 1), (805, .iaload, 1), (806, .aload_n 0, 1), (807, .iload_n 3, 1), (808, .iconst 2, 1), (809, .iadd, 1), (810, .iaload, 1), (811, .aload_n 0, 1), (812, .iload_n 3, 1), (813, .iconst 3, 1), (814, .iadd, 1), (815, .iaload, 1), (816, .invokevirtual 103, 3), (819, .aload_n 2, 1), (820, .aload_n 0, 1), (821, .iload_n 3, 1), (822, .iconst 1, 1), (823, .iadd, 1), (824, .iaload, 1), (825, .aload_n 0, 1), (826, .iload_n 3, 1), (827, .iconst 2, 1), (828, .iadd, 1), (829, .iaload, 1), (830, .aload_n 0, 1), (831, .iload_n 3, 1)]
def mt_L_law_11 : List (Nat × Instr × Nat) := [(832, .iconst 3, 1), (833, .iadd, 1), (834, .iaload, 1), (835, .invokevirtual 106, 3), (838, .if_icmp .eq 306, 3), (841, .iconst 0, 1), (842, .ireturn, 1), (843, .aload_n 1, 1), (844, .aload_n 0, 1), (845, .iload_n 3, 1), (846, .iconst 1, 1), (847, .iadd, 1), (848, .iaload, 1), (849, .invokevirtual 107, 3), (852, .aload_n 2, 1), (853, .aload_n 0, 1), (854, .iload_n 3, 1), (855, .iconst 1, 1), (856, .iadd, 1), (857, .iaload, 1), (858, .invokevirtual 110, 3), (861, .if_icmp .eq 283, 3), (864, .iconst 0, 1), (865, .ireturn, 1), (866, .aload_n 1, 1), (867, .aload_n 0, 1), (868, .iload_n 3, 1), (869, .iconst 1, 1), (870, .iadd, 1), (871, .iaload, 1), (872, .aload_n 0, 1), (873, .iload_n 3, 1), (874, .iconst 2, 1), (875, .iadd, 1), (876, .iaload, 1), (877, .aload_n 0, 1), (878, .iload_n 3, 1), (879, .iconst 3, 1), (880, .iadd, 1), (881, .iaload, 1), (882, .invokevirtual 111, 3), (885, .aload_n 2, 1), (886, .aload_n 0, 1), (887, .iload_n 3, 1), (888, .iconst 1, 1), (889, .iadd, 1), (890, .iaload, 1), (891, .aload_n 0, 1), (892, .iload_n 3, 1), (893, .iconst 2, 1)]
def mt_L_law_12 : List (Nat × Instr × Nat) := [(894, .iadd, 1), (895, .iaload, 1), (896, .aload_n 0, 1), (897, .iload_n 3, 1), (898, .iconst 3, 1), (899, .iadd, 1), (900, .iaload, 1), (901, .invokevirtual 114, 3), (904, .if_icmp .eq 240, 3), (907, .iconst 0, 1), (908, .ireturn, 1), (909, .aload_n 1, 1), (910, .aload_n 0, 1), (911, .iload_n 3, 1), (912, .iconst 1, 1), (913, .iadd, 1), (914, .iaload, 1), (915, .aload_n 0, 1), (916, .iload_n 3, 1), (917, .iconst 2, 1), (918, .iadd, 1), (919, .iaload, 1), (920, .aload_n 0, 1), (921, .iload_n 3, 1), (922, .iconst 3, 1), (923, .iadd, 1), (924, .iaload, 1), (925, .invokevirtual 115, 3), (928, .aload_n 2, 1), (929, .aload_n 0, 1), (930, .iload_n 3, 1), (931, .iconst 1, 1), (932, .iadd, 1), (933, .iaload, 1), (934, .aload_n 0, 1), (935, .iload_n 3, 1), (936, .iconst 2, 1), (937, .iadd, 1), (938, .iaload, 1), (939, .aload_n 0, 1), (940, .iload_n 3, 1), (941, .iconst 3, 1), (942, .iadd, 1), (943, .iaload, 1), (944, .invokevirtual 119, 3), (947, .lcmp, 1), (948, .ifCond .eq 196, 3), (951, .iconst 0, 1), (952, .ireturn, 1), (953, .aload_n 1, 1)]
def mt_L_law_13 : List (Nat × Instr × Nat) := [(954, .aload_n 0, 1), (955, .iload_n 3, 1), (956, .iconst 1, 1), (957, .iadd, 1), (958, .iaload, 1), (959, .aload_n 0, 1), (960, .iload_n 3, 1), (961, .iconst 2, 1), (962, .iadd, 1), (963, .iaload, 1), (964, .aload_n 0, 1), (965, .iload_n 3, 1), (966, .iconst 3, 1), (967, .iadd, 1), (968, .iaload, 1), (969, .aload_n 0, 1), (970, .iload_n 3, 1), (971, .iconst 4, 1), (972, .iadd, 1), (973, .iaload, 1), (974, .aload_n 0, 1), (975, .iload_n 3, 1), (976, .iconst 5, 1), (977, .iadd, 1), (978, .iaload, 1), (979, .invokevirtual 120, 3), (982, .aload_n 2, 1), (983, .aload_n 0, 1), (984, .iload_n 3, 1), (985, .iconst 1, 1), (986, .iadd, 1), (987, .iaload, 1), (988, .aload_n 0, 1), (989, .iload_n 3, 1), (990, .iconst 2, 1), (991, .iadd, 1), (992, .iaload, 1), (993, .aload_n 0, 1), (994, .iload_n 3, 1), (995, .iconst 3, 1), (996, .iadd, 1), (997, .iaload, 1), (998, .aload_n 0, 1), (999, .iload_n 3, 1), (1000, .iconst 4, 1), (1001, .iadd, 1), (1002, .iaload, 1), (1003, .aload_n 0, 1), (1004, .iload_n 3, 1), (1005, .iconst 5, 1)]
def mt_L_law_14 : List (Nat × Instr × Nat) := [(1006, .iadd, 1), (1007, .iaload, 1), (1008, .invokevirtual 124, 3), (1011, .if_icmp .eq 133, 3), (1014, .iconst 0, 1), (1015, .ireturn, 1), (1016, .aload_n 1, 1), (1017, .aload_n 0, 1), (1018, .iload_n 3, 1), (1019, .iconst 1, 1), (1020, .iadd, 1), (1021, .iaload, 1), (1022, .invokevirtual 125, 3), (1025, .aload_n 2, 1), (1026, .aload_n 0, 1), (1027, .iload_n 3, 1), (1028, .iconst 1, 1), (1029, .iadd, 1), (1030, .iaload, 1), (1031, .invokevirtual 128, 3), (1034, .if_icmp .eq 110, 3), (1037, .iconst 0, 1), (1038, .ireturn, 1), (1039, .aload_n 1, 1), (1040, .aload_n 0, 1), (1041, .iload_n 3, 1), (1042, .iconst 1, 1), (1043, .iadd, 1), (1044, .iaload, 1), (1045, .invokevirtual 129, 3), (1048, .aload_n 2, 1), (1049, .aload_n 0, 1), (1050, .iload_n 3, 1), (1051, .iconst 1, 1), (1052, .iadd, 1), (1053, .iaload, 1), (1054, .invokevirtual 132, 3), (1057, .if_icmp .eq 87, 3), (1060, .iconst 0, 1), (1061, .ireturn, 1), (1062, .aload_n 1, 1), (1063, .aload_n 0, 1), (1064, .iload_n 3, 1), (1065, .iconst 1, 1), (1066, .iadd, 1), (1067, .iaload, 1), (1068, .aload_n 0, 1), (1069, .iload_n 3, 1), (1070, .iconst 2, 1), (1071, .iadd, 1)]
def mt_L_law_15 : List (Nat × Instr × Nat) := [(1072, .iaload, 1), (1073, .invokevirtual 133, 3), (1076, .aload_n 2, 1), (1077, .aload_n 0, 1), (1078, .iload_n 3, 1), (1079, .iconst 1, 1), (1080, .iadd, 1), (1081, .iaload, 1), (1082, .aload_n 0, 1), (1083, .iload_n 3, 1), (1084, .iconst 2, 1), (1085, .iadd, 1), (1086, .iaload, 1), (1087, .invokevirtual 136, 3), (1090, .if_icmp .eq 54, 3), (1093, .iconst 0, 1), (1094, .ireturn, 1), (1095, .aload_n 1, 1), (1096, .invokevirtual 137, 3), (1099, .aload_n 2, 1), (1100, .invokevirtual 140, 3), (1103, .if_icmp .eq 41, 3), (1106, .iconst 0, 1), (1107, .ireturn, 1), (1108, .aload_n 1, 1), (1109, .invokevirtual 141, 3), (1112, .aload_n 2, 1), (1113, .invokevirtual 144, 3), (1116, .if_icmp .eq 28, 3), (1119, .iconst 0, 1), (1120, .ireturn, 1), (1121, .aload_n 1, 1), (1122, .aload_n 0, 1), (1123, .iload_n 3, 1), (1124, .iconst 1, 1), (1125, .iadd, 1), (1126, .iaload, 1), (1127, .invokevirtual 145, 3), (1130, .aload_n 2, 1), (1131, .aload_n 0, 1), (1132, .iload_n 3, 1), (1133, .iconst 1, 1), (1134, .iadd, 1), (1135, .iaload, 1), (1136, .invokevirtual 148, 3), (1139, .if_icmp .eq 5, 3), (1142, .iconst 0, 1), (1143, .ireturn, 1), (1144, .iinc 3 6, 3), (1147, .goto (-1129), 3)]
def mt_L_law_16 : List (Nat × Instr × Nat) := [(1150, .iconst 1, 1), (1151, .ireturn, 1)]
def mt_L_law : List (Nat × Instr × Nat) := mt_L_law_0 ++ (mt_L_law_1 ++ (mt_L_law_2 ++ (mt_L_law_3 ++ (mt_L_law_4 ++ (mt_L_law_5 ++ (mt_L_law_6 ++ (mt_L_law_7 ++ (mt_L_law_8 ++ (mt_L_law_9 ++ (mt_L_law_10 ++ (mt_L_law_11 ++ (mt_L_law_12 ++ (mt_L_law_13 ++ (mt_L_law_14 ++ (mt_L_law_15 ++ (mt_L_law_16))))))))))))))))
abbrev mM_X0_has : mm_Mt := (mt_X0_has, yX0_has, cX0_has, 2, (some .boolean), 1, 0)
abbrev mM_X0_reach : mm_Mt := (mt_X0_reach, yX0_reach, cX0_reach, 2, (some .int), 1, 0)
abbrev mM_X0_add : mm_Mt := (mt_X0_add, yX0_add, cX0_add, 4, (some .int), 3, 0)
abbrev mM_X0_takeBack : mm_Mt := (mt_X0_takeBack, yX0_takeBack, cX0_takeBack, 2, (some .int), 1, 0)
abbrev mM_X1_ofStones : mm_Mt := (mt_X1_ofStones, yX1_ofStones, cX1_ofStones, 7, (some .boolean), 4, 1)
abbrev mM_X1_ofTwo : mm_Mt := (mt_X1_ofTwo, yX1_ofTwo, cX1_ofTwo, 21, (some .boolean), 5, 1)
abbrev mM_X2_begin : mm_Mt := (mt_X2_begin, yX2_begin, cX2_begin, 6, none, 3, 2)
abbrev mM_X2_turnTo : mm_Mt := (mt_X2_turnTo, yX2_turnTo, cX2_turnTo, 3, none, 1, 2)
abbrev mM_X2_has : mm_Mt := (mt_X2_has, yX2_has, cX2_has, 2, (some .boolean), 1, 2)
abbrev mM_X2_isWater : mm_Mt := (mt_X2_isWater, yX2_isWater, cX2_isWater, 2, (some .boolean), 1, 2)
abbrev mM_X2_steps : mm_Mt := (mt_X2_steps, yX2_steps, cX2_steps, 5, (some .int), 2, 2)
abbrev mM_X2_lasts : mm_Mt := (mt_X2_lasts, yX2_lasts, cX2_lasts, 3, (some .int), 2, 2)
abbrev mM_X2_ringAt : mm_Mt := (mt_X2_ringAt, yX2_ringAt, cX2_ringAt, 4, (some .long), 3, 2)
abbrev mM_X2_spread : mm_Mt := (mt_X2_spread, yX2_spread, cX2_spread, 9, none, 1, 2)
abbrev mM_X2_lesserBeside : mm_Mt := (mt_X2_lesserBeside, yX2_lesserBeside, cX2_lesserBeside, 7, (some .long), 2, 2)
abbrev mM_X3_read : mm_Mt := (mt_X3_read, yX3_read, cX3_read, 5, (some .int), 3, 3)
abbrev mM_X3_end : mm_Mt := (mt_X3_end, yX3_end, cX3_end, 1, (some .int), 0, 3)
abbrev mM_X3_goesOn : mm_Mt := (mt_X3_goesOn, yX3_goesOn, cX3_goesOn, 3, (some .boolean), 2, 3)
abbrev mM_X3_goesOnInRows : mm_Mt := (mt_X3_goesOnInRows, yX3_goesOnInRows, cX3_goesOnInRows, 4, (some .boolean), 2, 3)
abbrev mM_X4_renew : mm_Mt := (mt_X4_renew, yX4_renew, cX4_renew, 3, none, 2, 4)
abbrev mM_X4_isOfAnother : mm_Mt := (mt_X4_isOfAnother, yX4_isOfAnother, cX4_isOfAnother, 2, (some .boolean), 1, 4)
abbrev mM_X4_hasCells : mm_Mt := (mt_X4_hasCells, yX4_hasCells, cX4_hasCells, 3, (some .boolean), 2, 4)
abbrev mM_X4_take : mm_Mt := (mt_X4_take, yX4_take, cX4_take, 3, none, 2, 4)
abbrev mM_X5_forgetPlan : mm_Mt := (mt_X5_forgetPlan, yX5_forgetPlan, cX5_forgetPlan, 1, none, 0, 5)
abbrev mM_X5_learn : mm_Mt := (mt_X5_learn, yX5_learn, cX5_learn, 6, none, 4, 5)
abbrev mM_X5_learnPair : mm_Mt := (mt_X5_learnPair, yX5_learnPair, cX5_learnPair, 12, none, 5, 5)
abbrev mM_X5_leastGap : mm_Mt := (mt_X5_leastGap, yX5_leastGap, cX5_leastGap, 3, (some .int), 2, 5)
abbrev mM_X5_throwInTurn : mm_Mt := (mt_X5_throwInTurn, yX5_throwInTurn, cX5_throwInTurn, 5, (some .int), 1, 5)
abbrev mM_X5_meetsOneAhead : mm_Mt := (mt_X5_meetsOneAhead, yX5_meetsOneAhead, cX5_meetsOneAhead, 8, (some .boolean), 2, 5)
abbrev mM_X5_makePlan : mm_Mt := (mt_X5_makePlan, yX5_makePlan, cX5_makePlan, 5, none, 1, 5)
abbrev mM_X5_firstThatWillDo : mm_Mt := (mt_X5_firstThatWillDo, yX5_firstThatWillDo, cX5_firstThatWillDo, 7, (some .int), 2, 5)
abbrev mM_X5_widestPair : mm_Mt := (mt_X5_widestPair, yX5_widestPair, cX5_widestPair, 5, (some .int), 1, 5)
abbrev mM_X5_mostBy : mm_Mt := (mt_X5_mostBy, yX5_mostBy, cX5_mostBy, 5, (some .int), 2, 5)
abbrev mM_X5_canThrow : mm_Mt := (mt_X5_canThrow, yX5_canThrow, cX5_canThrow, 4, (some .boolean), 2, 5)
abbrev mM_X5_weightIn : mm_Mt := (mt_X5_weightIn, yX5_weightIn, cX5_weightIn, 5, (some .int), 2, 5)
abbrev mM_X5_canPlace : mm_Mt := (mt_X5_canPlace, yX5_canPlace, cX5_canPlace, 9, (some .boolean), 2, 5)
abbrev mM_X5_tightest : mm_Mt := (mt_X5_tightest, yX5_tightest, cX5_tightest, 7, (some .int), 2, 5)
abbrev mM_X5_leavesRoom : mm_Mt := (mt_X5_leavesRoom, yX5_leavesRoom, cX5_leavesRoom, 11, (some .boolean), 4, 5)
abbrev mM_X6_pond : mm_Mt := (mt_X6_pond, yX6_pond, cX6_pond, 7, (some .int), 4, 6)
abbrev mM_X6_water : mm_Mt := (mt_X6_water, yX6_water, cX6_water, 2, (some .int), 1, 6)
abbrev mM_X6_far : mm_Mt := (mt_X6_far, yX6_far, cX6_far, 3, (some .int), 2, 6)
abbrev mM_X6_stone : mm_Mt := (mt_X6_stone, yX6_stone, cX6_stone, 4, (some .int), 3, 6)
abbrev mM_X6_ofStone : mm_Mt := (mt_X6_ofStone, yX6_ofStone, cX6_ofStone, 3, (some .int), 2, 6)
abbrev mM_X6_back : mm_Mt := (mt_X6_back, yX6_back, cX6_back, 2, (some .int), 1, 6)
abbrev mM_X6_ring : mm_Mt := (mt_X6_ring, yX6_ring, cX6_ring, 4, (some .long), 2, 6)
abbrev mM_X6_meet : mm_Mt := (mt_X6_meet, yX6_meet, cX6_meet, 4, (some .int), 3, 6)
abbrev mM_X6_first : mm_Mt := (mt_X6_first, yX6_first, cX6_first, 7, (some .int), 1, 6)
abbrev mM_X6_wish : mm_Mt := (mt_X6_wish, yX6_wish, cX6_wish, 4, (some .int), 2, 6)
abbrev mM_X6_ofWish : mm_Mt := (mt_X6_ofWish, yX6_ofWish, cX6_ofWish, 3, (some .int), 2, 6)
abbrev mM_X6_drop : mm_Mt := (mt_X6_drop, yX6_drop, cX6_drop, 3, (some .int), 1, 6)
abbrev mM_X6_apart : mm_Mt := (mt_X6_apart, yX6_apart, cX6_apart, 3, (some .int), 2, 6)
abbrev mM_X6_atOnce : mm_Mt := (mt_X6_atOnce, yX6_atOnce, cX6_atOnce, 1, (some .int), 0, 6)
abbrev mM_X6_soonest : mm_Mt := (mt_X6_soonest, yX6_soonest, cX6_soonest, 2, (some .int), 1, 6)
abbrev mM_X6_alone : mm_Mt := (mt_X6_alone, yX6_alone, cX6_alone, 3, (some .int), 1, 6)
abbrev mM_X6_sunset : mm_Mt := (mt_X6_sunset, yX6_sunset, cX6_sunset, 2, (some .int), 1, 6)
abbrev mM_X6_reed : mm_Mt := (mt_X6_reed, yX6_reed, cX6_reed, 3, (some .int), 2, 6)
abbrev mM_X6_pull : mm_Mt := (mt_X6_pull, yX6_pull, cX6_pull, 2, (some .int), 1, 6)
abbrev mM_X6_fits : mm_Mt := (mt_X6_fits, yX6_fits, cX6_fits, 6, (some .int), 2, 6)
abbrev mM_X6_dig : mm_Mt := (mt_X6_dig, yX6_dig, cX6_dig, 6, (some .int), 1, 6)
abbrev mM_X6_sheet : mm_Mt := (mt_X6_sheet, yX6_sheet, cX6_sheet, 4, (some .int), 3, 6)
abbrev mM_X6_lose : mm_Mt := (mt_X6_lose, yX6_lose, cX6_lose, 3, (some .int), 1, 6)
abbrev mM_X6_put : mm_Mt := (mt_X6_put, yX6_put, cX6_put, 4, (some .int), 3, 6)
abbrev mM_X6_cell : mm_Mt := (mt_X6_cell, yX6_cell, cX6_cell, 5, (some .long), 3, 6)
abbrev mM_X6_copy : mm_Mt := (mt_X6_copy, yX6_copy, cX6_copy, 8, (some .int), 5, 6)
abbrev mM_X6_tell : mm_Mt := (mt_X6_tell, yX6_tell, cX6_tell, 3, (some .int), 1, 6)
abbrev mM_X6_make : mm_Mt := (mt_X6_make, yX6_make, cX6_make, 2, (some .int), 1, 6)
abbrev mM_X6_as : mm_Mt := (mt_X6_as, yX6_as, cX6_as, 3, (some .int), 2, 6)
abbrev mM_X6_trace : mm_Mt := (mt_X6_trace, yX6_trace, cX6_trace, 1, (some .int), 0, 6)
abbrev mM_X6_fault : mm_Mt := (mt_X6_fault, yX6_fault, cX6_fault, 1, (some .int), 0, 6)
abbrev mM_X6_many : mm_Mt := (mt_X6_many, yX6_many, cX6_many, 2, (some .int), 1, 6)
abbrev mM_X6_faulty : mm_Mt := (mt_X6_faulty, yX6_faulty, cX6_faulty, 2, (some .int), 1, 6)
abbrev mM_X6_isSheet : mm_Mt := (mt_X6_isSheet, yX6_isSheet, cX6_isSheet, 1, (some .boolean), 1, 6)
abbrev mM_X6_isSort : mm_Mt := (mt_X6_isSort, yX6_isSort, cX6_isSort, 1, (some .boolean), 1, 6)
abbrev mM_X6_isKind : mm_Mt := (mt_X6_isKind, yX6_isKind, cX6_isKind, 1, (some .boolean), 1, 6)
abbrev mM_X6_isMinute : mm_Mt := (mt_X6_isMinute, yX6_isMinute, cX6_isMinute, 1, (some .boolean), 1, 6)
abbrev mM_X6_lowestBit : mm_Mt := (mt_X6_lowestBit, yX6_lowestBit, cX6_lowestBit, 2, (some .int), 1, 6)
abbrev mM_X6_fitsInCell : mm_Mt := (mt_X6_fitsInCell, yX6_fitsInCell, cX6_fitsInCell, 6, (some .int), 2, 6)
abbrev mM_X6_firstFit : mm_Mt := (mt_X6_firstFit, yX6_firstFit, cX6_firstFit, 2, (some .int), 1, 6)
abbrev mM_X6_mostTogetherIfDug : mm_Mt := (mt_X6_mostTogetherIfDug, yX6_mostTogetherIfDug, cX6_mostTogetherIfDug, 5, (some .int), 1, 6)
abbrev mM_X6_mostTogether : mm_Mt := (mt_X6_mostTogether, yX6_mostTogether, cX6_mostTogether, 3, (some .int), 0, 6)
abbrev mM_X6_findClashes : mm_Mt := (mt_X6_findClashes, yX6_findClashes, cX6_findClashes, 3, none, 0, 6)
abbrev mM_X6_isPeaceful : mm_Mt := (mt_X6_isPeaceful, yX6_isPeaceful, cX6_isPeaceful, 3, (some .boolean), 1, 6)
abbrev mM_X6_leave : mm_Mt := (mt_X6_leave, yX6_leave, cX6_leave, 2, none, 1, 6)
abbrev mM_X6_stoneTells : mm_Mt := (mt_X6_stoneTells, yX6_stoneTells, cX6_stoneTells, 2, (some .int), 1, 6)
abbrev mM_X6_pebbleTells : mm_Mt := (mt_X6_pebbleTells, yX6_pebbleTells, cX6_pebbleTells, 2, (some .int), 1, 6)
abbrev mM_X6_grainTells : mm_Mt := (mt_X6_grainTells, yX6_grainTells, cX6_grainTells, 3, (some .int), 1, 6)
abbrev mM_X6_lentMakes : mm_Mt := (mt_X6_lentMakes, yX6_lentMakes, cX6_lentMakes, 2, (some .int), 1, 6)
abbrev mM_X6_grainMakes : mm_Mt := (mt_X6_grainMakes, yX6_grainMakes, cX6_grainMakes, 1, (some .int), 0, 6)
abbrev mM_X7_fails : mm_Mt := (mt_X7_fails, yX7_fails, cX7_fails, 2, (some .int), 1, 7)
abbrev mM_X7_lost : mm_Mt := (mt_X7_lost, yX7_lost, cX7_lost, 2, (some .long), 1, 7)
abbrev mM_X7_within : mm_Mt := (mt_X7_within, yX7_within, cX7_within, 3, (some .boolean), 3, 7)
abbrev mM_X7_isSheet : mm_Mt := (mt_X7_isSheet, yX7_isSheet, cX7_isSheet, 1, (some .boolean), 1, 7)
abbrev mM_X7_isSort : mm_Mt := (mt_X7_isSort, yX7_isSort, cX7_isSort, 1, (some .boolean), 1, 7)
abbrev mM_X7_against : mm_Mt := (mt_X7_against, yX7_against, cX7_against, 5, (some .int), 4, 7)
abbrev mM_X7_all : mm_Mt := (mt_X7_all, yX7_all, cX7_all, 1, (some .int), 0, 7)
abbrev mM_X7_isCell : mm_Mt := (mt_X7_isCell, yX7_isCell, cX7_isCell, 2, (some .boolean), 1, 7)
abbrev mM_X7_digit : mm_Mt := (mt_X7_digit, yX7_digit, cX7_digit, 3, (some .int), 2, 7)
abbrev mM_X7_pond : mm_Mt := (mt_X7_pond, yX7_pond, cX7_pond, 8, (some .int), 4, 7)
abbrev mM_X7_readPond : mm_Mt := (mt_X7_readPond, yX7_readPond, cX7_readPond, 4, (some .boolean), 1, 7)
abbrev mM_X7_beside : mm_Mt := (mt_X7_beside, yX7_beside, cX7_beside, 6, (some .int), 2, 7)
abbrev mM_X7_way : mm_Mt := (mt_X7_way, yX7_way, cX7_way, 3, (some .int), 2, 7)
abbrev mM_X7_layWays : mm_Mt := (mt_X7_layWays, yX7_layWays, cX7_layWays, 3, none, 0, 7)
abbrev mM_X7_goOn : mm_Mt := (mt_X7_goOn, yX7_goOn, cX7_goOn, 6, none, 2, 7)
abbrev mM_X7_water : mm_Mt := (mt_X7_water, yX7_water, cX7_water, 2, (some .int), 1, 7)
abbrev mM_X7_far : mm_Mt := (mt_X7_far, yX7_far, cX7_far, 3, (some .int), 2, 7)
abbrev mM_X7_reach : mm_Mt := (mt_X7_reach, yX7_reach, cX7_reach, 1, (some .int), 1, 7)
abbrev mM_X7_comes : mm_Mt := (mt_X7_comes, yX7_comes, cX7_comes, 5, (some .boolean), 4, 7)
abbrev mM_X7_isStone : mm_Mt := (mt_X7_isStone, yX7_isStone, cX7_isStone, 2, (some .boolean), 1, 7)
abbrev mM_X7_stone : mm_Mt := (mt_X7_stone, yX7_stone, cX7_stone, 4, (some .int), 3, 7)
abbrev mM_X7_overAt : mm_Mt := (mt_X7_overAt, yX7_overAt, cX7_overAt, 5, (some .int), 1, 7)
abbrev mM_X7_ofStone : mm_Mt := (mt_X7_ofStone, yX7_ofStone, cX7_ofStone, 3, (some .int), 2, 7)
abbrev mM_X7_back : mm_Mt := (mt_X7_back, yX7_back, cX7_back, 2, (some .int), 1, 7)
abbrev mM_X7_ring : mm_Mt := (mt_X7_ring, yX7_ring, cX7_ring, 6, (some .long), 2, 7)
abbrev mM_X7_offer : mm_Mt := (mt_X7_offer, yX7_offer, cX7_offer, 6, none, 3, 7)
abbrev mM_X7_findMeet : mm_Mt := (mt_X7_findMeet, yX7_findMeet, cX7_findMeet, 8, none, 2, 7)
abbrev mM_X7_isThere : mm_Mt := (mt_X7_isThere, yX7_isThere, cX7_isThere, 4, (some .boolean), 3, 7)
abbrev mM_X7_meet : mm_Mt := (mt_X7_meet, yX7_meet, cX7_meet, 4, (some .int), 3, 7)
abbrev mM_X7_first : mm_Mt := (mt_X7_first, yX7_first, cX7_first, 7, (some .int), 1, 7)
abbrev mM_X7_isWish : mm_Mt := (mt_X7_isWish, yX7_isWish, cX7_isWish, 2, (some .boolean), 1, 7)
abbrev mM_X7_wish : mm_Mt := (mt_X7_wish, yX7_wish, cX7_wish, 3, (some .int), 2, 7)
abbrev mM_X7_ofWish : mm_Mt := (mt_X7_ofWish, yX7_ofWish, cX7_ofWish, 3, (some .int), 2, 7)
abbrev mM_X7_drop : mm_Mt := (mt_X7_drop, yX7_drop, cX7_drop, 2, (some .int), 1, 7)
abbrev mM_X7_isWithin : mm_Mt := (mt_X7_isWithin, yX7_isWithin, cX7_isWithin, 4, (some .boolean), 2, 7)
abbrev mM_X7_meetBy : mm_Mt := (mt_X7_meetBy, yX7_meetBy, cX7_meetBy, 4, (some .boolean), 3, 7)
abbrev mM_X7_layMeets : mm_Mt := (mt_X7_layMeets, yX7_layMeets, cX7_layMeets, 4, none, 0, 7)
abbrev mM_X7_layMeetsAt : mm_Mt := (mt_X7_layMeetsAt, yX7_layMeetsAt, cX7_layMeetsAt, 9, none, 3, 7)
abbrev mM_X7_apart : mm_Mt := (mt_X7_apart, yX7_apart, cX7_apart, 4, (some .int), 2, 7)
abbrev mM_X7_size : mm_Mt := (mt_X7_size, yX7_size, cX7_size, 3, (some .int), 1, 7)
abbrev mM_X7_mayAtOnce : mm_Mt := (mt_X7_mayAtOnce, yX7_mayAtOnce, cX7_mayAtOnce, 4, (some .boolean), 1, 7)
abbrev mM_X7_mostAtOnce : mm_Mt := (mt_X7_mostAtOnce, yX7_mostAtOnce, cX7_mostAtOnce, 3, (some .int), 0, 7)
abbrev mM_X7_atOnce : mm_Mt := (mt_X7_atOnce, yX7_atOnce, cX7_atOnce, 1, (some .int), 0, 7)
abbrev mM_X7_mayBe : mm_Mt := (mt_X7_mayBe, yX7_mayBe, cX7_mayBe, 6, (some .boolean), 4, 7)
abbrev mM_X7_mayGoOn : mm_Mt := (mt_X7_mayGoOn, yX7_mayGoOn, cX7_mayGoOn, 7, (some .boolean), 3, 7)
abbrev mM_X7_find : mm_Mt := (mt_X7_find, yX7_find, cX7_find, 5, (some .boolean), 2, 7)
abbrev mM_X7_soonest : mm_Mt := (mt_X7_soonest, yX7_soonest, cX7_soonest, 3, (some .int), 1, 7)
abbrev mM_X7_alone : mm_Mt := (mt_X7_alone, yX7_alone, cX7_alone, 4, (some .int), 1, 7)
abbrev mM_X7_sunset : mm_Mt := (mt_X7_sunset, yX7_sunset, cX7_sunset, 4, (some .int), 1, 7)
abbrev mM_X7_reed : mm_Mt := (mt_X7_reed, yX7_reed, cX7_reed, 3, (some .int), 2, 7)
abbrev mM_X7_pull : mm_Mt := (mt_X7_pull, yX7_pull, cX7_pull, 2, (some .int), 1, 7)
abbrev mM_X7_doesFit : mm_Mt := (mt_X7_doesFit, yX7_doesFit, cX7_doesFit, 5, (some .boolean), 3, 7)
abbrev mM_X7_fits : mm_Mt := (mt_X7_fits, yX7_fits, cX7_fits, 6, (some .int), 2, 7)
abbrev mM_X7_dig : mm_Mt := (mt_X7_dig, yX7_dig, cX7_dig, 6, (some .int), 1, 7)
abbrev mM_X7_sheet : mm_Mt := (mt_X7_sheet, yX7_sheet, cX7_sheet, 5, (some .int), 3, 7)
abbrev mM_X7_lose : mm_Mt := (mt_X7_lose, yX7_lose, cX7_lose, 3, (some .int), 1, 7)
abbrev mM_X7_put : mm_Mt := (mt_X7_put, yX7_put, cX7_put, 4, (some .int), 3, 7)
abbrev mM_X7_cell : mm_Mt := (mt_X7_cell, yX7_cell, cX7_cell, 4, (some .long), 3, 7)
abbrev mM_X7_copy : mm_Mt := (mt_X7_copy, yX7_copy, cX7_copy, 10, (some .int), 5, 7)
abbrev mM_X7_begins : mm_Mt := (mt_X7_begins, yX7_begins, cX7_begins, 2, none, 1, 7)
abbrev mM_X7_tell : mm_Mt := (mt_X7_tell, yX7_tell, cX7_tell, 3, (some .int), 1, 7)
abbrev mM_X7_make : mm_Mt := (mt_X7_make, yX7_make, cX7_make, 2, (some .int), 1, 7)
abbrev mM_X7_as : mm_Mt := (mt_X7_as, yX7_as, cX7_as, 3, (some .int), 2, 7)
abbrev mM_X7_trace : mm_Mt := (mt_X7_trace, yX7_trace, cX7_trace, 1, (some .int), 0, 7)
abbrev mM_X7_fault : mm_Mt := (mt_X7_fault, yX7_fault, cX7_fault, 1, (some .int), 0, 7)
abbrev mM_X7_many : mm_Mt := (mt_X7_many, yX7_many, cX7_many, 2, (some .int), 1, 7)
abbrev mM_J6_bitCount_0f7a4 : mm_Mt := (mt_J6_bitCount_0f7a4, yJ6_bitCount_0f7a4, cJ6_bitCount_0f7a4, 1, (some .int), 1, 9)
abbrev mM_J13_bitCount_95d88 : mm_Mt := (mt_J13_bitCount_95d88, yJ13_bitCount_95d88, cJ13_bitCount_95d88, 2, (some .int), 1, 10)
abbrev mM_J7_fill_d0a16 : mm_Mt := (mt_J7_fill_d0a16, yJ7_fill_d0a16, cJ7_fill_d0a16, 5, none, 2, 11)
abbrev mM_J7_fill_53178 : mm_Mt := (mt_J7_fill_53178, yJ7_fill_53178, cJ7_fill_53178, 4, none, 2, 11)
abbrev mM_L_law : mm_Mt := (mt_L_law, yL_law, code, 4, (some .boolean), 1, 8)
def mm_M (y : Nat) : mm_Mt := (bif Nat.blt y 79 then (bif Nat.blt y 39 then (bif Nat.blt y 19 then (bif Nat.blt y 9 then (bif Nat.blt y 4 then (bif Nat.blt y 2 then (bif Nat.blt y 1 then mM_X0_has else mM_X0_reach) else (bif Nat.blt y 3 then mM_X0_add else mM_X0_takeBack)) else (bif Nat.blt y 6 then (bif Nat.blt y 5 then mM_X1_ofStones else mM_X1_ofTwo) else (bif Nat.blt y 7 then mM_X2_begin else (bif Nat.blt y 8 then mM_X2_turnTo else mM_X2_has)))) else (bif Nat.blt y 14 then (bif Nat.blt y 11 then (bif Nat.blt y 10 then mM_X2_isWater else mM_X2_steps) else (bif Nat.blt y 12 then mM_X2_lasts else (bif Nat.blt y 13 then mM_X2_ringAt else mM_X2_spread))) else (bif Nat.blt y 16 then (bif Nat.blt y 15 then mM_X2_lesserBeside else mM_X3_read) else (bif Nat.blt y 17 then mM_X3_end else (bif Nat.blt y 18 then mM_X3_goesOn else mM_X3_goesOnInRows))))) else (bif Nat.blt y 29 then (bif Nat.blt y 24 then (bif Nat.blt y 21 then (bif Nat.blt y 20 then mM_X4_renew else mM_X4_isOfAnother) else (bif Nat.blt y 22 then mM_X4_hasCells else (bif Nat.blt y 23 then mM_X4_take else mM_X5_forgetPlan))) else (bif Nat.blt y 26 then (bif Nat.blt y 25 then mM_X5_learn else mM_X5_learnPair) else (bif Nat.blt y 27 then mM_X5_leastGap else (bif Nat.blt y 28 then mM_X5_throwInTurn else mM_X5_meetsOneAhead)))) else (bif Nat.blt y 34 then (bif Nat.blt y 31 then (bif Nat.blt y 30 then mM_X5_makePlan else mM_X5_firstThatWillDo) else (bif Nat.blt y 32 then mM_X5_widestPair else (bif Nat.blt y 33 then mM_X5_mostBy else mM_X5_canThrow))) else (bif Nat.blt y 36 then (bif Nat.blt y 35 then mM_X5_weightIn else mM_X5_canPlace) else (bif Nat.blt y 37 then mM_X5_tightest else (bif Nat.blt y 38 then mM_X5_leavesRoom else mM_X6_pond)))))) else (bif Nat.blt y 59 then (bif Nat.blt y 49 then (bif Nat.blt y 44 then (bif Nat.blt y 41 then (bif Nat.blt y 40 then mM_X6_water else mM_X6_far) else (bif Nat.blt y 42 then mM_X6_stone else (bif Nat.blt y 43 then mM_X6_ofStone else mM_X6_back))) else (bif Nat.blt y 46 then (bif Nat.blt y 45 then mM_X6_ring else mM_X6_meet) else (bif Nat.blt y 47 then mM_X6_first else (bif Nat.blt y 48 then mM_X6_wish else mM_X6_ofWish)))) else (bif Nat.blt y 54 then (bif Nat.blt y 51 then (bif Nat.blt y 50 then mM_X6_drop else mM_X6_apart) else (bif Nat.blt y 52 then mM_X6_atOnce else (bif Nat.blt y 53 then mM_X6_soonest else mM_X6_alone))) else (bif Nat.blt y 56 then (bif Nat.blt y 55 then mM_X6_sunset else mM_X6_reed) else (bif Nat.blt y 57 then mM_X6_pull else (bif Nat.blt y 58 then mM_X6_fits else mM_X6_dig))))) else (bif Nat.blt y 69 then (bif Nat.blt y 64 then (bif Nat.blt y 61 then (bif Nat.blt y 60 then mM_X6_sheet else mM_X6_lose) else (bif Nat.blt y 62 then mM_X6_put else (bif Nat.blt y 63 then mM_X6_cell else mM_X6_copy))) else (bif Nat.blt y 66 then (bif Nat.blt y 65 then mM_X6_tell else mM_X6_make) else (bif Nat.blt y 67 then mM_X6_as else (bif Nat.blt y 68 then mM_X6_trace else mM_X6_fault)))) else (bif Nat.blt y 74 then (bif Nat.blt y 71 then (bif Nat.blt y 70 then mM_X6_many else mM_X6_faulty) else (bif Nat.blt y 72 then mM_X6_isSheet else (bif Nat.blt y 73 then mM_X6_isSort else mM_X6_isKind))) else (bif Nat.blt y 76 then (bif Nat.blt y 75 then mM_X6_isMinute else mM_X6_lowestBit) else (bif Nat.blt y 77 then mM_X6_fitsInCell else (bif Nat.blt y 78 then mM_X6_firstFit else mM_X6_mostTogetherIfDug))))))) else (bif Nat.blt y 119 then (bif Nat.blt y 99 then (bif Nat.blt y 89 then (bif Nat.blt y 84 then (bif Nat.blt y 81 then (bif Nat.blt y 80 then mM_X6_mostTogether else mM_X6_findClashes) else (bif Nat.blt y 82 then mM_X6_isPeaceful else (bif Nat.blt y 83 then mM_X6_leave else mM_X6_stoneTells))) else (bif Nat.blt y 86 then (bif Nat.blt y 85 then mM_X6_pebbleTells else mM_X6_grainTells) else (bif Nat.blt y 87 then mM_X6_lentMakes else (bif Nat.blt y 88 then mM_X6_grainMakes else mM_X7_fails)))) else (bif Nat.blt y 94 then (bif Nat.blt y 91 then (bif Nat.blt y 90 then mM_X7_lost else mM_X7_within) else (bif Nat.blt y 92 then mM_X7_isSheet else (bif Nat.blt y 93 then mM_X7_isSort else mM_X7_against))) else (bif Nat.blt y 96 then (bif Nat.blt y 95 then mM_X7_all else mM_X7_isCell) else (bif Nat.blt y 97 then mM_X7_digit else (bif Nat.blt y 98 then mM_X7_pond else mM_X7_readPond))))) else (bif Nat.blt y 109 then (bif Nat.blt y 104 then (bif Nat.blt y 101 then (bif Nat.blt y 100 then mM_X7_beside else mM_X7_way) else (bif Nat.blt y 102 then mM_X7_layWays else (bif Nat.blt y 103 then mM_X7_goOn else mM_X7_water))) else (bif Nat.blt y 106 then (bif Nat.blt y 105 then mM_X7_far else mM_X7_reach) else (bif Nat.blt y 107 then mM_X7_comes else (bif Nat.blt y 108 then mM_X7_isStone else mM_X7_stone)))) else (bif Nat.blt y 114 then (bif Nat.blt y 111 then (bif Nat.blt y 110 then mM_X7_overAt else mM_X7_ofStone) else (bif Nat.blt y 112 then mM_X7_back else (bif Nat.blt y 113 then mM_X7_ring else mM_X7_offer))) else (bif Nat.blt y 116 then (bif Nat.blt y 115 then mM_X7_findMeet else mM_X7_isThere) else (bif Nat.blt y 117 then mM_X7_meet else (bif Nat.blt y 118 then mM_X7_first else mM_X7_isWish)))))) else (bif Nat.blt y 139 then (bif Nat.blt y 129 then (bif Nat.blt y 124 then (bif Nat.blt y 121 then (bif Nat.blt y 120 then mM_X7_wish else mM_X7_ofWish) else (bif Nat.blt y 122 then mM_X7_drop else (bif Nat.blt y 123 then mM_X7_isWithin else mM_X7_meetBy))) else (bif Nat.blt y 126 then (bif Nat.blt y 125 then mM_X7_layMeets else mM_X7_layMeetsAt) else (bif Nat.blt y 127 then mM_X7_apart else (bif Nat.blt y 128 then mM_X7_size else mM_X7_mayAtOnce)))) else (bif Nat.blt y 134 then (bif Nat.blt y 131 then (bif Nat.blt y 130 then mM_X7_mostAtOnce else mM_X7_atOnce) else (bif Nat.blt y 132 then mM_X7_mayBe else (bif Nat.blt y 133 then mM_X7_mayGoOn else mM_X7_find))) else (bif Nat.blt y 136 then (bif Nat.blt y 135 then mM_X7_soonest else mM_X7_alone) else (bif Nat.blt y 137 then mM_X7_sunset else (bif Nat.blt y 138 then mM_X7_reed else mM_X7_pull))))) else (bif Nat.blt y 149 then (bif Nat.blt y 144 then (bif Nat.blt y 141 then (bif Nat.blt y 140 then mM_X7_doesFit else mM_X7_fits) else (bif Nat.blt y 142 then mM_X7_dig else (bif Nat.blt y 143 then mM_X7_sheet else mM_X7_lose))) else (bif Nat.blt y 146 then (bif Nat.blt y 145 then mM_X7_put else mM_X7_cell) else (bif Nat.blt y 147 then mM_X7_copy else (bif Nat.blt y 148 then mM_X7_begins else mM_X7_tell)))) else (bif Nat.blt y 154 then (bif Nat.blt y 151 then (bif Nat.blt y 150 then mM_X7_make else mM_X7_as) else (bif Nat.blt y 152 then mM_X7_trace else (bif Nat.blt y 153 then mM_X7_fault else mM_X7_many))) else (bif Nat.blt y 156 then (bif Nat.blt y 155 then mM_J6_bitCount_0f7a4 else mM_J13_bitCount_95d88) else (bif Nat.blt y 157 then mM_J7_fill_d0a16 else (bif Nat.blt y 158 then mM_J7_fill_53178 else mM_L_law))))))))
abbrev i_X0_has : Nat := 0
abbrev i_X0_reach : Nat := 1
abbrev i_X0_add : Nat := 2
abbrev i_X0_takeBack : Nat := 3
abbrev i_X1_ofStones : Nat := 4
abbrev i_X1_ofTwo : Nat := 5
abbrev i_X2_begin : Nat := 6
abbrev i_X2_turnTo : Nat := 7
abbrev i_X2_has : Nat := 8
abbrev i_X2_isWater : Nat := 9
abbrev i_X2_steps : Nat := 10
abbrev i_X2_lasts : Nat := 11
abbrev i_X2_ringAt : Nat := 12
abbrev i_X2_spread : Nat := 13
abbrev i_X2_lesserBeside : Nat := 14
abbrev i_X3_read : Nat := 15
abbrev i_X3_end : Nat := 16
abbrev i_X3_goesOn : Nat := 17
abbrev i_X3_goesOnInRows : Nat := 18
abbrev i_X4_renew : Nat := 19
abbrev i_X4_isOfAnother : Nat := 20
abbrev i_X4_hasCells : Nat := 21
abbrev i_X4_take : Nat := 22
abbrev i_X5_forgetPlan : Nat := 23
abbrev i_X5_learn : Nat := 24
abbrev i_X5_learnPair : Nat := 25
abbrev i_X5_leastGap : Nat := 26
abbrev i_X5_throwInTurn : Nat := 27
abbrev i_X5_meetsOneAhead : Nat := 28
abbrev i_X5_makePlan : Nat := 29
abbrev i_X5_firstThatWillDo : Nat := 30
abbrev i_X5_widestPair : Nat := 31
abbrev i_X5_mostBy : Nat := 32
abbrev i_X5_canThrow : Nat := 33
abbrev i_X5_weightIn : Nat := 34
abbrev i_X5_canPlace : Nat := 35
abbrev i_X5_tightest : Nat := 36
abbrev i_X5_leavesRoom : Nat := 37
abbrev i_X6_pond : Nat := 38
abbrev i_X6_water : Nat := 39
abbrev i_X6_far : Nat := 40
abbrev i_X6_stone : Nat := 41
abbrev i_X6_ofStone : Nat := 42
abbrev i_X6_back : Nat := 43
abbrev i_X6_ring : Nat := 44
abbrev i_X6_meet : Nat := 45
abbrev i_X6_first : Nat := 46
abbrev i_X6_wish : Nat := 47
abbrev i_X6_ofWish : Nat := 48
abbrev i_X6_drop : Nat := 49
abbrev i_X6_apart : Nat := 50
abbrev i_X6_atOnce : Nat := 51
abbrev i_X6_soonest : Nat := 52
abbrev i_X6_alone : Nat := 53
abbrev i_X6_sunset : Nat := 54
abbrev i_X6_reed : Nat := 55
abbrev i_X6_pull : Nat := 56
abbrev i_X6_fits : Nat := 57
abbrev i_X6_dig : Nat := 58
abbrev i_X6_sheet : Nat := 59
abbrev i_X6_lose : Nat := 60
abbrev i_X6_put : Nat := 61
abbrev i_X6_cell : Nat := 62
abbrev i_X6_copy : Nat := 63
abbrev i_X6_tell : Nat := 64
abbrev i_X6_make : Nat := 65
abbrev i_X6_as : Nat := 66
abbrev i_X6_trace : Nat := 67
abbrev i_X6_fault : Nat := 68
abbrev i_X6_many : Nat := 69
abbrev i_X6_faulty : Nat := 70
abbrev i_X6_isSheet : Nat := 71
abbrev i_X6_isSort : Nat := 72
abbrev i_X6_isKind : Nat := 73
abbrev i_X6_isMinute : Nat := 74
abbrev i_X6_lowestBit : Nat := 75
abbrev i_X6_fitsInCell : Nat := 76
abbrev i_X6_firstFit : Nat := 77
abbrev i_X6_mostTogetherIfDug : Nat := 78
abbrev i_X6_mostTogether : Nat := 79
abbrev i_X6_findClashes : Nat := 80
abbrev i_X6_isPeaceful : Nat := 81
abbrev i_X6_leave : Nat := 82
abbrev i_X6_stoneTells : Nat := 83
abbrev i_X6_pebbleTells : Nat := 84
abbrev i_X6_grainTells : Nat := 85
abbrev i_X6_lentMakes : Nat := 86
abbrev i_X6_grainMakes : Nat := 87
abbrev i_X7_fails : Nat := 88
abbrev i_X7_lost : Nat := 89
abbrev i_X7_within : Nat := 90
abbrev i_X7_isSheet : Nat := 91
abbrev i_X7_isSort : Nat := 92
abbrev i_X7_against : Nat := 93
abbrev i_X7_all : Nat := 94
abbrev i_X7_isCell : Nat := 95
abbrev i_X7_digit : Nat := 96
abbrev i_X7_pond : Nat := 97
abbrev i_X7_readPond : Nat := 98
abbrev i_X7_beside : Nat := 99
abbrev i_X7_way : Nat := 100
abbrev i_X7_layWays : Nat := 101
abbrev i_X7_goOn : Nat := 102
abbrev i_X7_water : Nat := 103
abbrev i_X7_far : Nat := 104
abbrev i_X7_reach : Nat := 105
abbrev i_X7_comes : Nat := 106
abbrev i_X7_isStone : Nat := 107
abbrev i_X7_stone : Nat := 108
abbrev i_X7_overAt : Nat := 109
abbrev i_X7_ofStone : Nat := 110
abbrev i_X7_back : Nat := 111
abbrev i_X7_ring : Nat := 112
abbrev i_X7_offer : Nat := 113
abbrev i_X7_findMeet : Nat := 114
abbrev i_X7_isThere : Nat := 115
abbrev i_X7_meet : Nat := 116
abbrev i_X7_first : Nat := 117
abbrev i_X7_isWish : Nat := 118
abbrev i_X7_wish : Nat := 119
abbrev i_X7_ofWish : Nat := 120
abbrev i_X7_drop : Nat := 121
abbrev i_X7_isWithin : Nat := 122
abbrev i_X7_meetBy : Nat := 123
abbrev i_X7_layMeets : Nat := 124
abbrev i_X7_layMeetsAt : Nat := 125
abbrev i_X7_apart : Nat := 126
abbrev i_X7_size : Nat := 127
abbrev i_X7_mayAtOnce : Nat := 128
abbrev i_X7_mostAtOnce : Nat := 129
abbrev i_X7_atOnce : Nat := 130
abbrev i_X7_mayBe : Nat := 131
abbrev i_X7_mayGoOn : Nat := 132
abbrev i_X7_find : Nat := 133
abbrev i_X7_soonest : Nat := 134
abbrev i_X7_alone : Nat := 135
abbrev i_X7_sunset : Nat := 136
abbrev i_X7_reed : Nat := 137
abbrev i_X7_pull : Nat := 138
abbrev i_X7_doesFit : Nat := 139
abbrev i_X7_fits : Nat := 140
abbrev i_X7_dig : Nat := 141
abbrev i_X7_sheet : Nat := 142
abbrev i_X7_lose : Nat := 143
abbrev i_X7_put : Nat := 144
abbrev i_X7_cell : Nat := 145
abbrev i_X7_copy : Nat := 146
abbrev i_X7_begins : Nat := 147
abbrev i_X7_tell : Nat := 148
abbrev i_X7_make : Nat := 149
abbrev i_X7_as : Nat := 150
abbrev i_X7_trace : Nat := 151
abbrev i_X7_fault : Nat := 152
abbrev i_X7_many : Nat := 153
abbrev i_J6_bitCount_0f7a4 : Nat := 154
abbrev i_J13_bitCount_95d88 : Nat := 155
abbrev i_J7_fill_d0a16 : Nat := 156
abbrev i_J7_fill_53178 : Nat := 157
abbrev i_L_law : Nat := 158
def mm_fT_0 : List (Nat × Nat × Nat × Nat) := [(9, 0, 0, 0), (15, 0, 1, 0), (18, 0, 2, 0), (21, 0, 3, 1)]
def mm_fT_1 : List (Nat × Nat × Nat × Nat) := [(29, 0, 1, 0), (7, 0, 2, 0), (19, 1, 0, 1), (55, 1, 1, 1)]
def mm_fT_2 : List (Nat × Nat × Nat × Nat) := [(11, 2, 0, 0), (15, 2, 1, 0), (40, 2, 2, 2), (26, 2, 3, 2), (30, 2, 4, 2), (23, 2, 5, 1), (19, 2, 6, 1), (37, 2, 7, 2)]
def mm_fT_3 : List (Nat × Nat × Nat × Nat) := [(20, 4, 0, 0), (7, 3, 0, 1), (13, 3, 1, 1), (16, 3, 2, 2)]
def mm_fT_4 : List (Nat × Nat × Nat × Nat) := [(9, 4, 0, 0), (13, 4, 1, 3), (17, 4, 2, 1), (21, 4, 3, 1)]
def mm_fT_5 : List (Nat × Nat × Nat × Nat) := [(42, 0, 1, 0), (11, 5, 0, 0), (15, 5, 1, 0), (18, 5, 2, 0), (21, 5, 3, 0), (31, 5, 4, 3), (25, 5, 5, 0), (28, 5, 6, 0), (87, 5, 7, 1)]
def mm_fT_6 : List (Nat × Nat × Nat × Nat) := [(224, 4, 0, 0), (86, 4, 1, 3), (227, 4, 2, 1), (98, 3, 0, 1), (101, 3, 1, 1), (104, 3, 2, 2), (118, 2, 5, 1), (251, 2, 6, 1), (258, 2, 7, 2), (142, 0, 0, 0), (145, 0, 1, 0), (148, 0, 2, 0), (112, 0, 3, 1), (170, 1, 0, 1), (173, 1, 1, 1), (199, 5, 5, 0), (193, 5, 6, 0), (190, 5, 7, 1), (13, 6, 0, 0), (21, 6, 1, 0), (28, 6, 2, 0), (37, 6, 3, 0), (41, 6, 4, 0), (44, 6, 5, 0), (50, 6, 6, 0), (57, 6, 7, 0), (61, 6, 8, 0), (65, 6, 9, 1), (69, 6, 10, 1)]
def mm_fT_7 : List (Nat × Nat × Nat × Nat) := [(56, 7, 0, 1), (207, 7, 1, 1), (9, 7, 2, 0), (13, 7, 3, 0), (16, 7, 4, 0), (66, 7, 5, 1), (69, 7, 6, 1), (19, 7, 7, 0), (23, 7, 8, 0), (76, 7, 9, 1), (97, 7, 10, 1), (100, 7, 11, 1), (26, 7, 12, 0), (106, 7, 13, 1), (29, 7, 14, 0), (32, 7, 15, 0), (35, 7, 16, 0), (145, 7, 17, 1), (152, 7, 18, 1), (148, 7, 19, 3), (109, 7, 20, 1), (38, 7, 21, 0), (41, 7, 22, 0), (44, 7, 23, 0), (47, 7, 24, 0), (112, 7, 25, 1), (50, 7, 26, 0), (53, 7, 27, 0)]
def mm_fT_8 : List (Nat × Nat × Nat × Nat) := []
def mm_fT (o : Nat) : List (Nat × Nat × Nat × Nat) := (bif Nat.blt o 4 then (bif Nat.blt o 2 then (bif Nat.blt o 1 then mm_fT_0 else mm_fT_1) else (bif Nat.blt o 3 then mm_fT_2 else mm_fT_3)) else (bif Nat.blt o 6 then (bif Nat.blt o 5 then mm_fT_4 else mm_fT_5) else (bif Nat.blt o 7 then mm_fT_6 else (bif Nat.blt o 8 then mm_fT_7 else mm_fT_8))))
def mm_vT_0 : List (Nat × Nat) := []
def mm_vT_1 : List (Nat × Nat) := [(13, 5), (32, 1), (36, 11), (41, 12), (45, 14)]
def mm_vT_2 : List (Nat × Nat) := [(33, 7), (43, 9), (47, 11), (51, 13), (60, 8)]
def mm_vT_3 : List (Nat × Nat) := [(26, 17), (30, 16), (34, 18)]
def mm_vT_4 : List (Nat × Nat) := []
def mm_vT_5 : List (Nat × Nat) := [(35, 23), (38, 25), (47, 1), (51, 11), (57, 5), (81, 31), (106, 26), (84, 33), (122, 34), (103, 35), (125, 36), (99, 37), (91, 30), (69, 28)]
def mm_vT_6 : List (Nat × Nat) := [(79, 20), (82, 70), (90, 21), (94, 15), (108, 6), (115, 23), (121, 8), (124, 9), (127, 10), (137, 2), (141, 0), (151, 1), (154, 11), (157, 3), (162, 12), (166, 4), (176, 24), (180, 26), (183, 79), (263, 80), (275, 5), (266, 81), (187, 29), (196, 27), (200, 32), (203, 76), (206, 77), (214, 78), (259, 7), (217, 19), (221, 22), (236, 85), (279, 82), (239, 84), (242, 83), (245, 87), (248, 86)]
def mm_vT_7 : List (Nat × Nat) := [(86, 93), (90, 88), (94, 98), (115, 96), (72, 94), (103, 101), (119, 102), (123, 100), (126, 99), (129, 95), (135, 107), (138, 109), (141, 106), (162, 114), (155, 115), (158, 113), (165, 118), (176, 124), (168, 125), (172, 122), (179, 123), (188, 129), (185, 128), (197, 133), (191, 131), (194, 132), (200, 139), (203, 89), (210, 147)]
def mm_vT_8 : List (Nat × Nat) := [(13, 38), (18, 39), (23, 40), (28, 41), (33, 42), (37, 43), (41, 44), (46, 45), (50, 46), (54, 47), (58, 48), (62, 49), (66, 50), (70, 51), (75, 52), (79, 53), (83, 54), (87, 55), (91, 56), (95, 57), (99, 58), (103, 59), (107, 60), (111, 61), (115, 62), (120, 63), (125, 64), (129, 65), (133, 66), (137, 67), (141, 68), (145, 69), (17, 97), (22, 103), (27, 104), (32, 108), (36, 110), (40, 111), (45, 112), (49, 116), (53, 117), (57, 119), (61, 120), (65, 121), (69, 126), (74, 130), (78, 134), (82, 135), (86, 136), (90, 137), (94, 138), (98, 140), (102, 141), (106, 142), (110, 143), (114, 144), (119, 145), (124, 146), (128, 148), (132, 149), (136, 150), (140, 151), (144, 152), (148, 153)]
def mm_vT_9 : List (Nat × Nat) := []
def mm_vT_10 : List (Nat × Nat) := []
def mm_vT_11 : List (Nat × Nat) := []
def mm_vT (o : Nat) : List (Nat × Nat) := (bif Nat.blt o 6 then (bif Nat.blt o 3 then (bif Nat.blt o 1 then mm_vT_0 else (bif Nat.blt o 2 then mm_vT_1 else mm_vT_2)) else (bif Nat.blt o 4 then mm_vT_3 else (bif Nat.blt o 5 then mm_vT_4 else mm_vT_5))) else (bif Nat.blt o 9 then (bif Nat.blt o 7 then mm_vT_6 else (bif Nat.blt o 8 then mm_vT_7 else mm_vT_8)) else (bif Nat.blt o 10 then mm_vT_9 else (bif Nat.blt o 11 then mm_vT_10 else mm_vT_11))))
def mm_sT_0 : List (Nat × Nat) := []
def mm_sT_1 : List (Nat × Nat) := [(23, 1001)]
def mm_sT_2 : List (Nat × Nat) := [(55, 1001)]
def mm_sT_3 : List (Nat × Nat) := []
def mm_sT_4 : List (Nat × Nat) := [(24, 157)]
def mm_sT_5 : List (Nat × Nat) := [(109, 1001), (73, 1000), (116, 156), (94, 155), (78, 1002), (112, 154)]
def mm_sT_6 : List (Nat × Nat) := [(72, 71), (76, 72), (131, 73), (134, 74), (252, 155), (269, 157), (209, 154), (230, 1003)]
def mm_sT_7 : List (Nat × Nat) := [(79, 91), (62, 90), (83, 92), (132, 105), (182, 127)]
def mm_sT_8 : List (Nat × Nat) := []
def mm_sT_9 : List (Nat × Nat) := []
def mm_sT_10 : List (Nat × Nat) := []
def mm_sT_11 : List (Nat × Nat) := []
def mm_sT (o : Nat) : List (Nat × Nat) := (bif Nat.blt o 6 then (bif Nat.blt o 3 then (bif Nat.blt o 1 then mm_sT_0 else (bif Nat.blt o 2 then mm_sT_1 else mm_sT_2)) else (bif Nat.blt o 4 then mm_sT_3 else (bif Nat.blt o 5 then mm_sT_4 else mm_sT_5))) else (bif Nat.blt o 9 then (bif Nat.blt o 7 then mm_sT_6 else (bif Nat.blt o 8 then mm_sT_7 else mm_sT_8)) else (bif Nat.blt o 10 then mm_sT_9 else (bif Nat.blt o 11 then mm_sT_10 else mm_sT_11))))
end
section
/-! the small machine's steps -/
def mm_find : List (Nat × Instr × Nat) → Nat → Option Instr
  | [], _ => none
  | e :: t, pc => bif Nat.beq e.1 pc then some e.2.1 else mm_find t pc
def mm_find2 : List (Nat × Nat) → Nat → Option Nat
  | [], _ => none
  | e :: t, k => bif Nat.beq e.1 k then some e.2 else mm_find2 t k
def mm_find4 : List (Nat × Nat × Nat × Nat) → Nat → Option (Nat × Nat × Nat)
  | [], _ => none
  | e :: t, k => bif Nat.beq e.1 k then some e.2 else mm_find4 t k
/-- the constants of the pools -/
def mm_cl (o k : Nat) : Option Int64 :=
  bif (Nat.beq o 2 || Nat.beq o 5) && Nat.beq k 63 then some (-1)
  else bif Nat.beq o 10 then (bif Nat.beq k 314 then some 6148914691236517205 else bif Nat.beq k 316 then some 3689348814741910323 else bif Nat.beq k 318 then some 1085102592571150095 else none)
  else bif (Nat.beq o 6 && Nat.beq k 160) || (Nat.beq o 7 && Nat.beq k 60) then some (-9223372036854775808) else none
def mm_ci (k : Nat) : Option Int32 :=
  bif Nat.beq k 265 then some 1431655765 else bif Nat.beq k 266 then some 858993459 else bif Nat.beq k 267 then some 252645135 else none
def mm_st1 (L : mm_L) (i : Nat) (v : Value) : mm_L :=
  (match i with
    | 0 => L
    | j + 1 => match L[j]? with
      | some (some w) => bif Nat.beq w.category 2 then L.set j none else L
      | _ => L).set i (some v)
def mm_st2 (L : mm_L) (i : Nat) (v : Value) : mm_L := (mm_st1 L i v).set (i + 1) none
def mm_sz (S : List Value) : Nat := (S.map fun v => v.category).sum
def mx_1i (S : List Value) (f : Int32 → List Value → Option mm_F) : Option mm_F := match S with
  | .int x :: S => f x S
  | _ => none
def mx_2i (S : List Value) (f : Int32 → Int32 → List Value → Option mm_F) : Option mm_F := match S with
  | .int y :: .int x :: S => f x y S
  | _ => none
def mx_1l (S : List Value) (f : Int64 → List Value → Option mm_F) : Option mm_F := match S with
  | .long x :: S => f x S
  | _ => none
def mx_2l (S : List Value) (f : Int64 → Int64 → List Value → Option mm_F) : Option mm_F := match S with
  | .long y :: .long x :: S => f x y S
  | _ => none
def mx_il (S : List Value) (f : Int64 → Int32 → List Value → Option mm_F) : Option mm_F := match S with
  | .int y :: .long x :: S => f x y S
  | _ => none
def mx_1r (S : List Value) (f : Nat → List Value → Option mm_F) : Option mm_F := match S with
  | .ref q :: S => f q S
  | _ => none
def mx_ri (S : List Value) (f : Nat → Int32 → List Value → Option mm_F) : Option mm_F := match S with
  | .int i :: .ref q :: S => f q i S
  | _ => none
def mx_rii (S : List Value) (f : Nat → Int32 → Int32 → List Value → Option mm_F) : Option mm_F := match S with
  | .int x :: .int i :: .ref q :: S => f q i x S
  | _ => none
def mx_ril (S : List Value) (f : Nat → Int32 → Int64 → List Value → Option mm_F) : Option mm_F := match S with
  | .long x :: .int i :: .ref q :: S => f q i x S
  | _ => none
/-- a local variable -/
def mx_ldi (L : mm_L) (i : Nat) (f : Int32 → Option mm_F) : Option mm_F := match L[i]? with
  | some (some (.int x)) => f x
  | _ => none
def mx_ldl (L : mm_L) (i : Nat) (f : Int64 → Option mm_F) : Option mm_F := match L[i]? with
  | some (some (.long x)) => f x
  | _ => none
def mx_lda (L : mm_L) (i : Nat) (f : Nat → Option mm_F) : Option mm_F := match L[i]? with
  | some (some (.ref x)) => f x
  | _ => none
/-- a jump's target -/
def mx_to (pc : Nat) (off : Int) (f : Nat → Option mm_F) : Option mm_F := match (pc : Int) + off with
  | .ofNat t => f t
  | _ => none
/-- arrays: of ints, of longs, of booleans, of references -/
def mx_ai (h : mm_H) (q : Nat) (f : Nat → (Nat → Int32) → Option mm_F) : Option mm_F := match h[q]? with
  | some (.inl (0, n, .inl g)) => f n g
  | _ => none
def mx_al (h : mm_H) (q : Nat) (f : Nat → (Nat → Int64) → Option mm_F) : Option mm_F := match h[q]? with
  | some (.inl (1, n, .inr (.inl g))) => f n g
  | _ => none
def mx_ab (h : mm_H) (q : Nat) (f : Nat → (Nat → Int32) → Option mm_F) : Option mm_F := match h[q]? with
  | some (.inl (2, n, .inl g)) => f n g
  | _ => none
def mx_ar (h : mm_H) (q : Nat) (f : Nat → (Nat → Option Nat) → Option mm_F) : Option mm_F := match h[q]? with
  | some (.inl (3, n, .inr (.inr (.inr (.inr g))))) => f n g
  | _ => none
def mx_an (h : mm_H) (q : Nat) (f : Nat → Option mm_F) : Option mm_F := match h[q]? with
  | some (.inl (_, n, _)) => f n
  | _ => none
/-- an object of a class -/
def mx_ob (h : mm_H) (q ci : Nat) (f : List Value → Option mm_F) : Option mm_F := match h[q]? with
  | some (.inr (c, fs)) => bif Nat.beq c ci then f fs else none
  | _ => none
def mm_cond (c : ClassFile.Cond) (x y : Int32) : Bool := match c with
  | .eq => decide (x = y)
  | .ne => !decide (x = y)
  | .lt => decide (x < y)
  | .ge => decide (y ≤ x)
  | .gt => decide (y < x)
  | .le => decide (x ≤ y)
/-- one instruction that neither calls nor returns -/
def mm_x (o : Nat) (i : Instr) (pc : Nat) (L : mm_L) (S : List Value) (h : mm_H) : Option mm_F := match i with
  | .iconst n => some (pc + 1, L, .int (Int32.ofInt n) :: S, h)
  | .bipush n => some (pc + 2, L, .int (Int8.ofInt n).toInt32 :: S, h)
  | .sipush n => some (pc + 3, L, .int (Int16.ofInt n).toInt32 :: S, h)
  | .lconst n => some (pc + 1, L, .long (Int64.ofNat n.val) :: S, h)
  | .ldc_w k => bif Nat.beq o 9 then (match mm_ci k with | some v => some (pc + 3, L, .int v :: S, h) | none => none) else none
  | .ldc2_w k => match mm_cl o k with | some v => some (pc + 3, L, .long v :: S, h) | none => none
  | .iload_n k => mx_ldi L k.val fun x => some (pc + 1, L, .int x :: S, h)
  | .iload k => mx_ldi L k fun x => some (pc + 2, L, .int x :: S, h)
  | .lload_n k => mx_ldl L k.val fun x => some (pc + 1, L, .long x :: S, h)
  | .lload k => mx_ldl L k fun x => some (pc + 2, L, .long x :: S, h)
  | .aload_n k => mx_lda L k.val fun x => some (pc + 1, L, .ref x :: S, h)
  | .aload k => mx_lda L k fun x => some (pc + 2, L, .ref x :: S, h)
  | .istore_n k => mx_1i S fun x S => bif Nat.blt k.val L.length then some (pc + 1, mm_st1 L k.val (.int x), S, h) else none
  | .istore k => mx_1i S fun x S => bif Nat.blt k L.length then some (pc + 2, mm_st1 L k (.int x), S, h) else none
  | .lstore_n k => mx_1l S fun x S => bif Nat.blt (k.val + 1) L.length then some (pc + 1, mm_st2 L k.val (.long x), S, h) else none
  | .lstore k => mx_1l S fun x S => bif Nat.blt (k + 1) L.length then some (pc + 2, mm_st2 L k (.long x), S, h) else none
  | .astore_n k => mx_1r S fun x S => bif Nat.blt k.val L.length then some (pc + 1, mm_st1 L k.val (.ref x), S, h) else none
  | .astore k => mx_1r S fun x S => bif Nat.blt k L.length then some (pc + 2, mm_st1 L k (.ref x), S, h) else none
  | .iinc k n => mx_ldi L k fun x => bif Nat.blt k L.length then some (pc + 3, mm_st1 L k (.int (x + Int32.ofInt n)), S, h) else none
  | .iadd => mx_2i S fun x y S => some (pc + 1, L, .int (x + y) :: S, h)
  | .isub => mx_2i S fun x y S => some (pc + 1, L, .int (x - y) :: S, h)
  | .imul => mx_2i S fun x y S => some (pc + 1, L, .int (x * y) :: S, h)
  | .iand => mx_2i S fun x y S => some (pc + 1, L, .int (x &&& y) :: S, h)
  | .ior => mx_2i S fun x y S => some (pc + 1, L, .int (x ||| y) :: S, h)
  | .ixor => mx_2i S fun x y S => some (pc + 1, L, .int (x ^^^ y) :: S, h)
  | .ishl => mx_2i S fun x y S => some (pc + 1, L, .int (x <<< (y &&& 31)) :: S, h)
  | .ishr => mx_2i S fun x y S => some (pc + 1, L, .int (x >>> (y &&& 31)) :: S, h)
  | .iushr => mx_2i S fun x y S => some (pc + 1, L, .int (x.toUInt32 >>> (y.toUInt32 &&& Int32.toUInt32 31)).toInt32 :: S, h)
  | .idiv => mx_2i S fun x y S => if y = 0 then none else some (pc + 1, L, .int (x / y) :: S, h)
  | .irem => mx_2i S fun x y S => if y = 0 then none else some (pc + 1, L, .int (x - x / y * y) :: S, h)
  | .ineg => mx_1i S fun x S => some (pc + 1, L, .int (-x) :: S, h)
  | .ladd => mx_2l S fun x y S => some (pc + 1, L, .long (x + y) :: S, h)
  | .lsub => mx_2l S fun x y S => some (pc + 1, L, .long (x - y) :: S, h)
  | .land => mx_2l S fun x y S => some (pc + 1, L, .long (x &&& y) :: S, h)
  | .lor => mx_2l S fun x y S => some (pc + 1, L, .long (x ||| y) :: S, h)
  | .lxor => mx_2l S fun x y S => some (pc + 1, L, .long (x ^^^ y) :: S, h)
  | .lneg => mx_1l S fun x S => some (pc + 1, L, .long (-x) :: S, h)
  | .lshl => mx_il S fun x y S => some (pc + 1, L, .long (x <<< (y.toInt64 &&& 63)) :: S, h)
  | .lushr => mx_il S fun x y S => some (pc + 1, L, .long (x.toUInt64 >>> (y.toInt64.toUInt64 &&& Int64.toUInt64 63)).toInt64 :: S, h)
  | .lcmp => mx_2l S fun x y S => some (pc + 1, L, .int (lg_cmp x y) :: S, h)
  | .i2l => mx_1i S fun x S => some (pc + 1, L, .long x.toInt64 :: S, h)
  | .l2i => mx_1l S fun x S => some (pc + 1, L, .int x.toInt32 :: S, h)
  | .i2b => mx_1i S fun x S => some (pc + 1, L, .int x.toInt8.toInt32 :: S, h)
  | .i2s => mx_1i S fun x S => some (pc + 1, L, .int x.toInt16.toInt32 :: S, h)
  | .dup => match S with
    | v :: S => bif Nat.beq v.category 1 then some (pc + 1, L, v :: v :: S, h) else none
    | _ => none
  | .dup2 => match S with
    | v :: w :: S => bif Nat.beq v.category 1 && Nat.beq w.category 1 then some (pc + 1, L, v :: w :: v :: w :: S, h) else none
    | _ => none
  | .goto d => mx_to pc d fun t => some (t, L, S, h)
  | .ifCond c d => mx_1i S fun x S => mx_to pc d fun t => some (bif mm_cond c x 0 then t else pc + 3, L, S, h)
  | .if_icmp c d => mx_2i S fun x y S => mx_to pc d fun t => some (bif mm_cond c x y then t else pc + 3, L, S, h)
  | .tableswitch d lo hi offs => mx_1i S fun x S =>
      if x.toInt < lo ∨ hi < x.toInt then mx_to pc d fun t => some (t, L, S, h)
      else match offs[(x.toInt - lo).toNat]? with
        | some off => mx_to pc off fun t => some (t, L, S, h)
        | none => none
  | .lookupswitch d ps => mx_1i S fun x S =>
      bif (ps.toList.zip (ps.toList.drop 1)).all (fun (a, next) => a.1 < next.1) then mx_to pc (Op.lookupswitch.offset ps.toList d x.toInt) fun t => some (t, L, S, h) else none
  | .getfield k => mx_1r S fun q S => match mm_find4 (mm_fT o) k with
    | some (ci, j, _) => mx_ob h q ci fun fs => match fs[j]? with
      | some v => some (pc + 3, L, v :: S, h)
      | none => none
    | none => none
  | .putfield k => match mm_find4 (mm_fT o) k with
    | some (ci, j, tt) => match S with
      | .int x :: .ref q :: S => mx_ob h q ci fun fs => bif Nat.blt j fs.length then (bif Nat.beq tt 1 then some (pc + 3, L, S, h.set q (.inr (ci, fs.set j (.int x)))) else bif Nat.beq tt 3 then (if x = 0 ∨ x = 1 then some (pc + 3, L, S, h.set q (.inr (ci, fs.set j (.int x)))) else none) else none) else none
      | .long x :: .ref q :: S => mx_ob h q ci fun fs => bif Nat.blt j fs.length && Nat.beq tt 2 then some (pc + 3, L, S, h.set q (.inr (ci, fs.set j (.long x)))) else none
      | _ => none
    | none => none
  | .getstatic k => bif (Nat.beq o 0 && Nat.beq k 25) || (Nat.beq o 6 && Nat.beq k 255) then some (pc + 3, L, .ref 0 :: S, h) else none
  | .iaload => mx_ri S fun q i S => mx_ai h q fun n g => if i < 0 ∨ n ≤ i.toNatClampNeg then none else some (pc + 1, L, .int (g i.toNatClampNeg) :: S, h)
  | .laload => mx_ri S fun q i S => mx_al h q fun n g => if i < 0 ∨ n ≤ i.toNatClampNeg then none else some (pc + 1, L, .long (g i.toNatClampNeg) :: S, h)
  | .baload => mx_ri S fun q i S => mx_ab h q fun n g => if i < 0 ∨ n ≤ i.toNatClampNeg then none else some (pc + 1, L, .int (g i.toNatClampNeg) :: S, h)
  | .aaload => mx_ri S fun q i S => mx_ar h q fun n g => if i < 0 ∨ n ≤ i.toNatClampNeg then none else match g i.toNatClampNeg with
    | some p => some (pc + 1, L, .ref p :: S, h)
    | none => none
  | .iastore => mx_rii S fun q i x S => mx_ai h q fun n g => if i < 0 ∨ n ≤ i.toNatClampNeg then none else bif Nat.blt 1 q then some (pc + 1, L, S, h.set q (.inl (0, n, .inl (upd g i.toNatClampNeg x)))) else none
  | .lastore => mx_ril S fun q i x S => mx_al h q fun n g => if i < 0 ∨ n ≤ i.toNatClampNeg then none else bif Nat.blt 1 q then some (pc + 1, L, S, h.set q (.inl (1, n, .inr (.inl (vp_updL g i.toNatClampNeg x))))) else none
  | .bastore => mx_rii S fun q i x S => mx_ab h q fun n g => if i < 0 ∨ n ≤ i.toNatClampNeg then none else if x = 0 ∨ x = 1 then (bif Nat.blt 1 q then some (pc + 1, L, S, h.set q (.inl (2, n, .inl (upd g i.toNatClampNeg x)))) else none) else none
  | .arraylength => mx_1r S fun q S => mx_an h q fun n => some (pc + 1, L, .int (Int32.ofNat n) :: S, h)
  | .invokestatic k => match mm_find2 (mm_sT o) k with
    | some z =>
      bif Nat.beq z 1000 then mx_2i S fun x y S => bif Nat.ble (mm_sz S) 8 then some (pc + 3, L, .int (if x < y then y else x) :: S, h) else none
      else bif Nat.beq z 1001 then mx_2i S fun x y S => bif Nat.ble (mm_sz S) 8 then some (pc + 3, L, .int (if y < x then y else x) :: S, h) else none
      else bif Nat.beq z 1002 then mx_1i S fun x S => bif Nat.ble (mm_sz S) 8 then some (pc + 3, L, .int (if 0 ≤ x then x else 0 - x) :: S, h) else none
      else bif Nat.beq z 1003 then (match S with
        | .int n :: .int dp :: .ref q1 :: .int sp :: .ref q0 :: S => mx_ai h q0 fun n0 f => mx_ai h q1 fun n1 g =>
          if sp < 0 ∨ dp < 0 ∨ n < 0 ∨ n0 < sp.toNatClampNeg + n.toNatClampNeg ∨ n1 < dp.toNatClampNeg + n.toNatClampNeg then none
          else bif Nat.ble (mm_sz S) 8 && (Nat.blt 1 q0 && Nat.blt 1 q1) then some (pc + 3, L, S, h.set q1 (.inl (0, n1, .inl (va_cpy f g sp.toNatClampNeg dp.toNatClampNeg n.toNatClampNeg)))) else none
        | _ => none)
      else none
    | none => none
  | _ => none
/-- what an instruction returns -/
def mm_ret (rt : Option FieldType) (i : Instr) (S : List Value) : Option (Option Value) := match i with
  | .ireturn => match S, rt with
    | [.int v], some .int => some (some (.int v))
    | [.int v], some .boolean => if v = 0 ∨ v = 1 then some (some (.int v)) else none
    | _, _ => none
  | .lreturn => match S, rt with
    | [.long v], some .long => some (some (.long v))
    | _, _ => none
  | .return_ => match S, rt with
    | [], none => some none
    | _, _ => none
  | _ => none
/-- the static calls of a nest mate's private method -/
def mm_nest (o k : Nat) : Bool := (Nat.beq o 1 && Nat.beq k 49) || (Nat.beq o 5 && Nat.beq k 65)
/-- what an instruction calls, with which arguments, and what stays on the stack -/
def mm_call (o : Nat) (i : Instr) (S : List Value) (h : mm_H) : Option (Nat × List Value × List Value) := match i with
  | .invokevirtual k => match mm_find2 (mm_vT o) k with
    | some z => match S.drop (mm_M z).2.2.2.2.2.1 with
      | .ref q :: S' => match h[q]? with
        | some (.inr (c, _)) => bif Nat.beq c (mm_M z).2.2.2.2.2.2 && Nat.ble (mm_sz S') 8 then some (z, .ref q :: (S.take (mm_M z).2.2.2.2.2.1).reverse, S') else none
        | _ => none
      | _ => none
    | none => none
  | .invokestatic k => bif mm_nest o k then (match S with
      | .long x :: S' => bif Nat.ble (mm_sz S') 8 then some (i_X6_lowestBit, [.long x], S') else none
      | _ => none)
    else match mm_find2 (mm_sT o) k with
    | some z => bif Nat.blt z 1000 && (Nat.ble (mm_M z).2.2.2.2.2.1 S.length && Nat.ble (mm_sz (S.drop (mm_M z).2.2.2.2.2.1)) 8) then some (z, (S.take (mm_M z).2.2.2.2.2.1).reverse, S.drop (mm_M z).2.2.2.2.2.1) else none
    | none => none
  | _ => none
def mm_lay : List Value → mm_L
  | [] => []
  | v :: t => bif Nat.beq v.category 2 then some v :: none :: mm_lay t else some v :: mm_lay t
/-- the locals with which a method begins -/
def mm_ent (n : Nat) (as : List Value) : mm_L := mm_lay as ++ List.replicate (n - (mm_lay as).length) none
/-- n: how far at most; d: how deep at most -/
def mm_run : Nat → Nat → Nat → mm_F → Option (Option Value × mm_H)
  | 0, _, _, _ => none
  | n + 1, d, y, (pc, L, S, h) => match mm_find (mm_M y).1 pc with
    | none => none
    | some i => match mm_ret (mm_M y).2.2.2.2.1 i S with
      | some r => some (r, h)
      | none => match mm_call (mm_M y).2.2.2.2.2.2 i S h with
        | some (z, as, S') => (match d with
          | 0 => none
          | d + 1 => bif Nat.ble (mm_lay as).length (mm_M z).2.2.2.1 then (match mm_run n d z (0, mm_ent (mm_M z).2.2.2.1 as, [], h) with
            | none => none
            | some (r, h') => mm_run n (d + 1) y (pc + 3, L, r.toList ++ S', h')) else none)
        | none => match mm_x (mm_M y).2.2.2.2.2.2 i pc L S h with
          | none => none
          | some F => mm_run n d y F
def mm_Runs (d y : Nat) (F : mm_F) (r : Option Value × mm_H) : Prop := ∃ n, mm_run n d y F = some r
end
section
/-! the instructions are the bytes' (written by wip/whole/gen06.py) -/
theorem mm_cd {α : Type} {P : α → Prop} {c : Bool} {a b : α} (ha : P a) (hb : P b) : P (bif c then a else b) := by cases c <;> assumption
def mm_len (i : Instr) (n : Nat) : Bool := match i with
  | .bipush _ | .iload _ | .lload _ | .aload _ | .istore _ | .lstore _ | .astore _ => Nat.beq n 2
  | .sipush _ | .ldc_w _ | .ldc2_w _ | .iinc _ _ | .goto _ | .ifCond _ _ | .if_icmp _ _ | .getfield _ | .putfield _ | .getstatic _ | .invokevirtual _ | .invokestatic _ => Nat.beq n 3
  | .tableswitch _ _ _ _ | .lookupswitch _ _ | .new _ | .invokespecial _ => true
  | _ => Nat.beq n 1
def mm_okl (b : ByteArray) (t : List (Nat × Instr × Nat)) : Bool := t.all fun e => decide (decode b e.1 = .ok e.2) && mm_len e.2.1 e.2.2
def mm_ok1 (M : mm_Mt) : Bool := mm_okl M.2.2.1 M.1
theorem mm_okl_app {b : ByteArray} {s t : List (Nat × Instr × Nat)} (h : mm_okl b s = true) (k : mm_okl b t = true) : mm_okl b (s ++ t) = true := by
  unfold mm_okl at *
  rw [List.all_append, h, k]
  rfl
set_option maxRecDepth 100000 in
theorem mo_X0_has : mm_ok1 mM_X0_has = true := by decide +kernel
set_option maxRecDepth 100000 in
theorem mo_X0_reach : mm_ok1 mM_X0_reach = true := by decide +kernel
set_option maxRecDepth 100000 in
theorem mo_X0_add : mm_ok1 mM_X0_add = true := by decide +kernel
set_option maxRecDepth 100000 in
theorem mo_X0_takeBack : mm_ok1 mM_X0_takeBack = true := by decide +kernel
set_option maxRecDepth 100000 in
theorem mo_X1_ofStones : mm_ok1 mM_X1_ofStones = true := by decide +kernel
set_option maxRecDepth 100000 in
theorem mo_X1_ofTwo : mm_ok1 mM_X1_ofTwo = true := by decide +kernel
set_option maxRecDepth 100000 in
theorem mo_X2_begin : mm_ok1 mM_X2_begin = true := by decide +kernel
set_option maxRecDepth 100000 in
theorem mo_X2_turnTo : mm_ok1 mM_X2_turnTo = true := by decide +kernel
set_option maxRecDepth 100000 in
theorem mo_X2_has : mm_ok1 mM_X2_has = true := by decide +kernel
set_option maxRecDepth 100000 in
theorem mo_X2_isWater : mm_ok1 mM_X2_isWater = true := by decide +kernel
set_option maxRecDepth 100000 in
theorem mo_X2_steps : mm_ok1 mM_X2_steps = true := by decide +kernel
set_option maxRecDepth 100000 in
theorem mo_X2_lasts : mm_ok1 mM_X2_lasts = true := by decide +kernel
set_option maxRecDepth 100000 in
theorem mo_X2_ringAt : mm_ok1 mM_X2_ringAt = true := by decide +kernel
set_option maxRecDepth 100000 in
theorem mo_X2_spread : mm_ok1 mM_X2_spread = true := by decide +kernel
set_option maxRecDepth 100000 in
theorem mo_X2_lesserBeside : mm_ok1 mM_X2_lesserBeside = true := by decide +kernel
set_option maxRecDepth 100000 in
theorem mo_X3_read : mm_ok1 mM_X3_read = true := by decide +kernel
set_option maxRecDepth 100000 in
theorem mo_X3_end : mm_ok1 mM_X3_end = true := by decide +kernel
set_option maxRecDepth 100000 in
theorem mo_X3_goesOn : mm_ok1 mM_X3_goesOn = true := by decide +kernel
set_option maxRecDepth 100000 in
theorem mo_X3_goesOnInRows : mm_ok1 mM_X3_goesOnInRows = true := by decide +kernel
set_option maxRecDepth 100000 in
theorem mo_X4_renew : mm_ok1 mM_X4_renew = true := by decide +kernel
set_option maxRecDepth 100000 in
theorem mo_X4_isOfAnother : mm_ok1 mM_X4_isOfAnother = true := by decide +kernel
set_option maxRecDepth 100000 in
theorem mo_X4_hasCells : mm_ok1 mM_X4_hasCells = true := by decide +kernel
set_option maxRecDepth 100000 in
theorem mo_X4_take : mm_ok1 mM_X4_take = true := by decide +kernel
set_option maxRecDepth 100000 in
theorem mo_X5_forgetPlan : mm_ok1 mM_X5_forgetPlan = true := by decide +kernel
set_option maxRecDepth 100000 in
theorem mo_X5_learn : mm_ok1 mM_X5_learn = true := by decide +kernel
set_option maxRecDepth 100000 in
theorem mo_X5_learnPair : mm_ok1 mM_X5_learnPair = true := by decide +kernel
set_option maxRecDepth 100000 in
theorem mo_X5_leastGap : mm_ok1 mM_X5_leastGap = true := by decide +kernel
set_option maxRecDepth 100000 in
theorem mo_X5_throwInTurn : mm_ok1 mM_X5_throwInTurn = true := by decide +kernel
set_option maxRecDepth 100000 in
theorem mo_X5_meetsOneAhead : mm_ok1 mM_X5_meetsOneAhead = true := by decide +kernel
set_option maxRecDepth 100000 in
theorem mo_X5_makePlan : mm_ok1 mM_X5_makePlan = true := by decide +kernel
set_option maxRecDepth 100000 in
theorem mo_X5_firstThatWillDo : mm_ok1 mM_X5_firstThatWillDo = true := by decide +kernel
set_option maxRecDepth 100000 in
theorem mo_X5_widestPair : mm_ok1 mM_X5_widestPair = true := by decide +kernel
set_option maxRecDepth 100000 in
theorem mo_X5_mostBy : mm_ok1 mM_X5_mostBy = true := by decide +kernel
set_option maxRecDepth 100000 in
theorem mo_X5_canThrow : mm_ok1 mM_X5_canThrow = true := by decide +kernel
set_option maxRecDepth 100000 in
theorem mo_X5_weightIn : mm_ok1 mM_X5_weightIn = true := by decide +kernel
set_option maxRecDepth 100000 in
theorem mo_X5_canPlace : mm_ok1 mM_X5_canPlace = true := by decide +kernel
set_option maxRecDepth 100000 in
theorem mo_X5_tightest : mm_ok1 mM_X5_tightest = true := by decide +kernel
set_option maxRecDepth 100000 in
theorem mo_X5_leavesRoom : mm_ok1 mM_X5_leavesRoom = true := by decide +kernel
set_option maxRecDepth 100000 in
theorem mo_X6_pond : mm_ok1 mM_X6_pond = true := by decide +kernel
set_option maxRecDepth 100000 in
theorem mo_X6_water : mm_ok1 mM_X6_water = true := by decide +kernel
set_option maxRecDepth 100000 in
theorem mo_X6_far : mm_ok1 mM_X6_far = true := by decide +kernel
set_option maxRecDepth 100000 in
theorem mo_X6_stone : mm_ok1 mM_X6_stone = true := by decide +kernel
set_option maxRecDepth 100000 in
theorem mo_X6_ofStone : mm_ok1 mM_X6_ofStone = true := by decide +kernel
set_option maxRecDepth 100000 in
theorem mo_X6_back : mm_ok1 mM_X6_back = true := by decide +kernel
set_option maxRecDepth 100000 in
theorem mo_X6_ring : mm_ok1 mM_X6_ring = true := by decide +kernel
set_option maxRecDepth 100000 in
theorem mo_X6_meet : mm_ok1 mM_X6_meet = true := by decide +kernel
set_option maxRecDepth 100000 in
theorem mo_X6_first : mm_ok1 mM_X6_first = true := by decide +kernel
set_option maxRecDepth 100000 in
theorem mo_X6_wish : mm_ok1 mM_X6_wish = true := by decide +kernel
set_option maxRecDepth 100000 in
theorem mo_X6_ofWish : mm_ok1 mM_X6_ofWish = true := by decide +kernel
set_option maxRecDepth 100000 in
theorem mo_X6_drop : mm_ok1 mM_X6_drop = true := by decide +kernel
set_option maxRecDepth 100000 in
theorem mo_X6_apart : mm_ok1 mM_X6_apart = true := by decide +kernel
set_option maxRecDepth 100000 in
theorem mo_X6_atOnce : mm_ok1 mM_X6_atOnce = true := by decide +kernel
set_option maxRecDepth 100000 in
theorem mo_X6_soonest : mm_ok1 mM_X6_soonest = true := by decide +kernel
set_option maxRecDepth 100000 in
theorem mo_X6_alone : mm_ok1 mM_X6_alone = true := by decide +kernel
set_option maxRecDepth 100000 in
theorem mo_X6_sunset : mm_ok1 mM_X6_sunset = true := by decide +kernel
set_option maxRecDepth 100000 in
theorem mo_X6_reed : mm_ok1 mM_X6_reed = true := by decide +kernel
set_option maxRecDepth 100000 in
theorem mo_X6_pull : mm_ok1 mM_X6_pull = true := by decide +kernel
set_option maxRecDepth 100000 in
theorem mo_X6_fits : mm_ok1 mM_X6_fits = true := by decide +kernel
set_option maxRecDepth 100000 in
theorem mo_X6_dig : mm_ok1 mM_X6_dig = true := by decide +kernel
set_option maxRecDepth 100000 in
theorem mo_X6_sheet : mm_ok1 mM_X6_sheet = true := by decide +kernel
set_option maxRecDepth 100000 in
theorem mo_X6_lose : mm_ok1 mM_X6_lose = true := by decide +kernel
set_option maxRecDepth 100000 in
theorem mo_X6_put : mm_ok1 mM_X6_put = true := by decide +kernel
set_option maxRecDepth 100000 in
theorem mo_X6_cell : mm_ok1 mM_X6_cell = true := by decide +kernel
set_option maxRecDepth 100000 in
theorem mo_X6_copy : mm_ok1 mM_X6_copy = true := by decide +kernel
set_option maxRecDepth 100000 in
theorem mo_X6_tell : mm_ok1 mM_X6_tell = true := by decide +kernel
set_option maxRecDepth 100000 in
theorem mo_X6_make : mm_ok1 mM_X6_make = true := by decide +kernel
set_option maxRecDepth 100000 in
theorem mo_X6_as : mm_ok1 mM_X6_as = true := by decide +kernel
set_option maxRecDepth 100000 in
theorem mo_X6_trace : mm_ok1 mM_X6_trace = true := by decide +kernel
set_option maxRecDepth 100000 in
theorem mo_X6_fault : mm_ok1 mM_X6_fault = true := by decide +kernel
set_option maxRecDepth 100000 in
theorem mo_X6_many : mm_ok1 mM_X6_many = true := by decide +kernel
set_option maxRecDepth 100000 in
theorem mo_X6_faulty : mm_ok1 mM_X6_faulty = true := by decide +kernel
set_option maxRecDepth 100000 in
theorem mo_X6_isSheet : mm_ok1 mM_X6_isSheet = true := by decide +kernel
set_option maxRecDepth 100000 in
theorem mo_X6_isSort : mm_ok1 mM_X6_isSort = true := by decide +kernel
set_option maxRecDepth 100000 in
theorem mo_X6_isKind : mm_ok1 mM_X6_isKind = true := by decide +kernel
set_option maxRecDepth 100000 in
theorem mo_X6_isMinute : mm_ok1 mM_X6_isMinute = true := by decide +kernel
set_option maxRecDepth 100000 in
theorem mo_X6_lowestBit : mm_ok1 mM_X6_lowestBit = true := by decide +kernel
set_option maxRecDepth 100000 in
theorem mo_X6_fitsInCell : mm_ok1 mM_X6_fitsInCell = true := by decide +kernel
set_option maxRecDepth 100000 in
theorem mo_X6_firstFit : mm_ok1 mM_X6_firstFit = true := by decide +kernel
set_option maxRecDepth 100000 in
theorem mo_X6_mostTogetherIfDug : mm_ok1 mM_X6_mostTogetherIfDug = true := by decide +kernel
set_option maxRecDepth 100000 in
theorem mo_X6_mostTogether : mm_ok1 mM_X6_mostTogether = true := by decide +kernel
set_option maxRecDepth 100000 in
theorem mo_X6_findClashes : mm_ok1 mM_X6_findClashes = true := by decide +kernel
set_option maxRecDepth 100000 in
theorem mo_X6_isPeaceful : mm_ok1 mM_X6_isPeaceful = true := by decide +kernel
set_option maxRecDepth 100000 in
theorem mo_X6_leave : mm_ok1 mM_X6_leave = true := by decide +kernel
set_option maxRecDepth 100000 in
theorem mo_X6_stoneTells : mm_ok1 mM_X6_stoneTells = true := by decide +kernel
set_option maxRecDepth 100000 in
theorem mo_X6_pebbleTells : mm_ok1 mM_X6_pebbleTells = true := by decide +kernel
set_option maxRecDepth 100000 in
theorem mo_X6_grainTells : mm_ok1 mM_X6_grainTells = true := by decide +kernel
set_option maxRecDepth 100000 in
theorem mo_X6_lentMakes : mm_ok1 mM_X6_lentMakes = true := by decide +kernel
set_option maxRecDepth 100000 in
theorem mo_X6_grainMakes : mm_ok1 mM_X6_grainMakes = true := by decide +kernel
set_option maxRecDepth 100000 in
theorem mo_X7_fails : mm_ok1 mM_X7_fails = true := by decide +kernel
set_option maxRecDepth 100000 in
theorem mo_X7_lost : mm_ok1 mM_X7_lost = true := by decide +kernel
set_option maxRecDepth 100000 in
theorem mo_X7_within : mm_ok1 mM_X7_within = true := by decide +kernel
set_option maxRecDepth 100000 in
theorem mo_X7_isSheet : mm_ok1 mM_X7_isSheet = true := by decide +kernel
set_option maxRecDepth 100000 in
theorem mo_X7_isSort : mm_ok1 mM_X7_isSort = true := by decide +kernel
set_option maxRecDepth 100000 in
theorem mo_X7_against : mm_ok1 mM_X7_against = true := by decide +kernel
set_option maxRecDepth 100000 in
theorem mo_X7_all : mm_ok1 mM_X7_all = true := by decide +kernel
set_option maxRecDepth 100000 in
theorem mo_X7_isCell : mm_ok1 mM_X7_isCell = true := by decide +kernel
set_option maxRecDepth 100000 in
theorem mo_X7_digit : mm_ok1 mM_X7_digit = true := by decide +kernel
set_option maxRecDepth 100000 in
theorem mo_X7_pond : mm_ok1 mM_X7_pond = true := by decide +kernel
set_option maxRecDepth 100000 in
theorem mo_X7_readPond : mm_ok1 mM_X7_readPond = true := by decide +kernel
set_option maxRecDepth 100000 in
theorem mo_X7_beside : mm_ok1 mM_X7_beside = true := by decide +kernel
set_option maxRecDepth 100000 in
theorem mo_X7_way : mm_ok1 mM_X7_way = true := by decide +kernel
set_option maxRecDepth 100000 in
theorem mo_X7_layWays : mm_ok1 mM_X7_layWays = true := by decide +kernel
set_option maxRecDepth 100000 in
theorem mo_X7_goOn : mm_ok1 mM_X7_goOn = true := by decide +kernel
set_option maxRecDepth 100000 in
theorem mo_X7_water : mm_ok1 mM_X7_water = true := by decide +kernel
set_option maxRecDepth 100000 in
theorem mo_X7_far : mm_ok1 mM_X7_far = true := by decide +kernel
set_option maxRecDepth 100000 in
theorem mo_X7_reach : mm_ok1 mM_X7_reach = true := by decide +kernel
set_option maxRecDepth 100000 in
theorem mo_X7_comes : mm_ok1 mM_X7_comes = true := by decide +kernel
set_option maxRecDepth 100000 in
theorem mo_X7_isStone : mm_ok1 mM_X7_isStone = true := by decide +kernel
set_option maxRecDepth 100000 in
theorem mo_X7_stone : mm_ok1 mM_X7_stone = true := by decide +kernel
set_option maxRecDepth 100000 in
theorem mo_X7_overAt : mm_ok1 mM_X7_overAt = true := by decide +kernel
set_option maxRecDepth 100000 in
theorem mo_X7_ofStone : mm_ok1 mM_X7_ofStone = true := by decide +kernel
set_option maxRecDepth 100000 in
theorem mo_X7_back : mm_ok1 mM_X7_back = true := by decide +kernel
set_option maxRecDepth 100000 in
theorem mo_X7_ring : mm_ok1 mM_X7_ring = true := by decide +kernel
set_option maxRecDepth 100000 in
theorem mo_X7_offer : mm_ok1 mM_X7_offer = true := by decide +kernel
set_option maxRecDepth 100000 in
theorem mo_X7_findMeet : mm_ok1 mM_X7_findMeet = true := by decide +kernel
set_option maxRecDepth 100000 in
theorem mo_X7_isThere : mm_ok1 mM_X7_isThere = true := by decide +kernel
set_option maxRecDepth 100000 in
theorem mo_X7_meet : mm_ok1 mM_X7_meet = true := by decide +kernel
set_option maxRecDepth 100000 in
theorem mo_X7_first : mm_ok1 mM_X7_first = true := by decide +kernel
set_option maxRecDepth 100000 in
theorem mo_X7_isWish : mm_ok1 mM_X7_isWish = true := by decide +kernel
set_option maxRecDepth 100000 in
theorem mo_X7_wish : mm_ok1 mM_X7_wish = true := by decide +kernel
set_option maxRecDepth 100000 in
theorem mo_X7_ofWish : mm_ok1 mM_X7_ofWish = true := by decide +kernel
set_option maxRecDepth 100000 in
theorem mo_X7_drop : mm_ok1 mM_X7_drop = true := by decide +kernel
set_option maxRecDepth 100000 in
theorem mo_X7_isWithin : mm_ok1 mM_X7_isWithin = true := by decide +kernel
set_option maxRecDepth 100000 in
theorem mo_X7_meetBy : mm_ok1 mM_X7_meetBy = true := by decide +kernel
set_option maxRecDepth 100000 in
theorem mo_X7_layMeets : mm_ok1 mM_X7_layMeets = true := by decide +kernel
set_option maxRecDepth 100000 in
theorem mo_X7_layMeetsAt : mm_ok1 mM_X7_layMeetsAt = true := by decide +kernel
set_option maxRecDepth 100000 in
theorem mo_X7_apart : mm_ok1 mM_X7_apart = true := by decide +kernel
set_option maxRecDepth 100000 in
theorem mo_X7_size : mm_ok1 mM_X7_size = true := by decide +kernel
set_option maxRecDepth 100000 in
theorem mo_X7_mayAtOnce : mm_ok1 mM_X7_mayAtOnce = true := by decide +kernel
set_option maxRecDepth 100000 in
theorem mo_X7_mostAtOnce : mm_ok1 mM_X7_mostAtOnce = true := by decide +kernel
set_option maxRecDepth 100000 in
theorem mo_X7_atOnce : mm_ok1 mM_X7_atOnce = true := by decide +kernel
set_option maxRecDepth 100000 in
theorem mo_X7_mayBe : mm_ok1 mM_X7_mayBe = true := by decide +kernel
set_option maxRecDepth 100000 in
theorem mo_X7_mayGoOn : mm_ok1 mM_X7_mayGoOn = true := by decide +kernel
set_option maxRecDepth 100000 in
theorem mo_X7_find : mm_ok1 mM_X7_find = true := by decide +kernel
set_option maxRecDepth 100000 in
theorem mo_X7_soonest : mm_ok1 mM_X7_soonest = true := by decide +kernel
set_option maxRecDepth 100000 in
theorem mo_X7_alone : mm_ok1 mM_X7_alone = true := by decide +kernel
set_option maxRecDepth 100000 in
theorem mo_X7_sunset : mm_ok1 mM_X7_sunset = true := by decide +kernel
set_option maxRecDepth 100000 in
theorem mo_X7_reed : mm_ok1 mM_X7_reed = true := by decide +kernel
set_option maxRecDepth 100000 in
theorem mo_X7_pull : mm_ok1 mM_X7_pull = true := by decide +kernel
set_option maxRecDepth 100000 in
theorem mo_X7_doesFit : mm_ok1 mM_X7_doesFit = true := by decide +kernel
set_option maxRecDepth 100000 in
theorem mo_X7_fits : mm_ok1 mM_X7_fits = true := by decide +kernel
set_option maxRecDepth 100000 in
theorem mo_X7_dig : mm_ok1 mM_X7_dig = true := by decide +kernel
set_option maxRecDepth 100000 in
theorem mo_X7_sheet : mm_ok1 mM_X7_sheet = true := by decide +kernel
set_option maxRecDepth 100000 in
theorem mo_X7_lose : mm_ok1 mM_X7_lose = true := by decide +kernel
set_option maxRecDepth 100000 in
theorem mo_X7_put : mm_ok1 mM_X7_put = true := by decide +kernel
set_option maxRecDepth 100000 in
theorem mo_X7_cell : mm_ok1 mM_X7_cell = true := by decide +kernel
set_option maxRecDepth 100000 in
theorem mo_X7_copy : mm_ok1 mM_X7_copy = true := by decide +kernel
set_option maxRecDepth 100000 in
theorem mo_X7_begins : mm_ok1 mM_X7_begins = true := by decide +kernel
set_option maxRecDepth 100000 in
theorem mo_X7_tell : mm_ok1 mM_X7_tell = true := by decide +kernel
set_option maxRecDepth 100000 in
theorem mo_X7_make : mm_ok1 mM_X7_make = true := by decide +kernel
set_option maxRecDepth 100000 in
theorem mo_X7_as : mm_ok1 mM_X7_as = true := by decide +kernel
set_option maxRecDepth 100000 in
theorem mo_X7_trace : mm_ok1 mM_X7_trace = true := by decide +kernel
set_option maxRecDepth 100000 in
theorem mo_X7_fault : mm_ok1 mM_X7_fault = true := by decide +kernel
set_option maxRecDepth 100000 in
theorem mo_X7_many : mm_ok1 mM_X7_many = true := by decide +kernel
set_option maxRecDepth 100000 in
theorem mo_J6_bitCount_0f7a4 : mm_ok1 mM_J6_bitCount_0f7a4 = true := by decide +kernel
set_option maxRecDepth 100000 in
theorem mo_J13_bitCount_95d88 : mm_ok1 mM_J13_bitCount_95d88 = true := by decide +kernel
set_option maxRecDepth 100000 in
theorem mo_J7_fill_d0a16 : mm_ok1 mM_J7_fill_d0a16 = true := by decide +kernel
set_option maxRecDepth 100000 in
theorem mo_J7_fill_53178 : mm_ok1 mM_J7_fill_53178 = true := by decide +kernel
set_option maxRecDepth 100000 in

theorem mo_L_law_0 : mm_okl code mt_L_law_0 = true := by decide +kernel
set_option maxRecDepth 100000 in
theorem mo_L_law_1 : mm_okl code mt_L_law_1 = true := by decide +kernel
set_option maxRecDepth 100000 in
theorem mo_L_law_2 : mm_okl code mt_L_law_2 = true := by decide +kernel
set_option maxRecDepth 100000 in
theorem mo_L_law_3 : mm_okl code mt_L_law_3 = true := by decide +kernel
set_option maxRecDepth 100000 in
theorem mo_L_law_4 : mm_okl code mt_L_law_4 = true := by decide +kernel
set_option maxRecDepth 100000 in
theorem mo_L_law_5 : mm_okl code mt_L_law_5 = true := by decide +kernel
set_option maxRecDepth 100000 in
theorem mo_L_law_6 : mm_okl code mt_L_law_6 = true := by decide +kernel
set_option maxRecDepth 100000 in
theorem mo_L_law_7 : mm_okl code mt_L_law_7 = true := by decide +kernel
set_option maxRecDepth 100000 in
theorem mo_L_law_8 : mm_okl code mt_L_law_8 = true := by decide +kernel
set_option maxRecDepth 100000 in
theorem mo_L_law_9 : mm_okl code mt_L_law_9 = true := by decide +kernel
set_option maxRecDepth 100000 in
theorem mo_L_law_10 : mm_okl code mt_L_law_10 = true := by decide +kernel
set_option maxRecDepth 100000 in
theorem mo_L_law_11 : mm_okl code mt_L_law_11 = true := by decide +kernel
set_option maxRecDepth 100000 in
theorem mo_L_law_12 : mm_okl code mt_L_law_12 = true := by decide +kernel
set_option maxRecDepth 100000 in
theorem mo_L_law_13 : mm_okl code mt_L_law_13 = true := by decide +kernel
set_option maxRecDepth 100000 in
theorem mo_L_law_14 : mm_okl code mt_L_law_14 = true := by decide +kernel
set_option maxRecDepth 100000 in
theorem mo_L_law_15 : mm_okl code mt_L_law_15 = true := by decide +kernel
set_option maxRecDepth 100000 in
theorem mo_L_law_16 : mm_okl code mt_L_law_16 = true := by decide +kernel
theorem mo_L_law : mm_ok1 mM_L_law = true := (mm_okl_app mo_L_law_0 (mm_okl_app mo_L_law_1 (mm_okl_app mo_L_law_2 (mm_okl_app mo_L_law_3 (mm_okl_app mo_L_law_4 (mm_okl_app mo_L_law_5 (mm_okl_app mo_L_law_6 (mm_okl_app mo_L_law_7 (mm_okl_app mo_L_law_8 (mm_okl_app mo_L_law_9 (mm_okl_app mo_L_law_10 (mm_okl_app mo_L_law_11 (mm_okl_app mo_L_law_12 (mm_okl_app mo_L_law_13 (mm_okl_app mo_L_law_14 (mm_okl_app mo_L_law_15 mo_L_law_16))))))))))))))))
theorem mm_ok1_all (y : Nat) : mm_ok1 (mm_M y) = true := by
  unfold mm_M
  exact (mm_cd (P := fun M => mm_ok1 M = true) (mm_cd (P := fun M => mm_ok1 M = true) (mm_cd (P := fun M => mm_ok1 M = true) (mm_cd (P := fun M => mm_ok1 M = true) (mm_cd (P := fun M => mm_ok1 M = true) (mm_cd (P := fun M => mm_ok1 M = true) (mm_cd (P := fun M => mm_ok1 M = true) mo_X0_has mo_X0_reach) (mm_cd (P := fun M => mm_ok1 M = true) mo_X0_add mo_X0_takeBack)) (mm_cd (P := fun M => mm_ok1 M = true) (mm_cd (P := fun M => mm_ok1 M = true) mo_X1_ofStones mo_X1_ofTwo) (mm_cd (P := fun M => mm_ok1 M = true) mo_X2_begin (mm_cd (P := fun M => mm_ok1 M = true) mo_X2_turnTo mo_X2_has)))) (mm_cd (P := fun M => mm_ok1 M = true) (mm_cd (P := fun M => mm_ok1 M = true) (mm_cd (P := fun M => mm_ok1 M = true) mo_X2_isWater mo_X2_steps) (mm_cd (P := fun M => mm_ok1 M = true) mo_X2_lasts (mm_cd (P := fun M => mm_ok1 M = true) mo_X2_ringAt mo_X2_spread))) (mm_cd (P := fun M => mm_ok1 M = true) (mm_cd (P := fun M => mm_ok1 M = true) mo_X2_lesserBeside mo_X3_read) (mm_cd (P := fun M => mm_ok1 M = true) mo_X3_end (mm_cd (P := fun M => mm_ok1 M = true) mo_X3_goesOn mo_X3_goesOnInRows))))) (mm_cd (P := fun M => mm_ok1 M = true) (mm_cd (P := fun M => mm_ok1 M = true) (mm_cd (P := fun M => mm_ok1 M = true) (mm_cd (P := fun M => mm_ok1 M = true) mo_X4_renew mo_X4_isOfAnother) (mm_cd (P := fun M => mm_ok1 M = true) mo_X4_hasCells (mm_cd (P := fun M => mm_ok1 M = true) mo_X4_take mo_X5_forgetPlan))) (mm_cd (P := fun M => mm_ok1 M = true) (mm_cd (P := fun M => mm_ok1 M = true) mo_X5_learn mo_X5_learnPair) (mm_cd (P := fun M => mm_ok1 M = true) mo_X5_leastGap (mm_cd (P := fun M => mm_ok1 M = true) mo_X5_throwInTurn mo_X5_meetsOneAhead)))) (mm_cd (P := fun M => mm_ok1 M = true) (mm_cd (P := fun M => mm_ok1 M = true) (mm_cd (P := fun M => mm_ok1 M = true) mo_X5_makePlan mo_X5_firstThatWillDo) (mm_cd (P := fun M => mm_ok1 M = true) mo_X5_widestPair (mm_cd (P := fun M => mm_ok1 M = true) mo_X5_mostBy mo_X5_canThrow))) (mm_cd (P := fun M => mm_ok1 M = true) (mm_cd (P := fun M => mm_ok1 M = true) mo_X5_weightIn mo_X5_canPlace) (mm_cd (P := fun M => mm_ok1 M = true) mo_X5_tightest (mm_cd (P := fun M => mm_ok1 M = true) mo_X5_leavesRoom mo_X6_pond)))))) (mm_cd (P := fun M => mm_ok1 M = true) (mm_cd (P := fun M => mm_ok1 M = true) (mm_cd (P := fun M => mm_ok1 M = true) (mm_cd (P := fun M => mm_ok1 M = true) (mm_cd (P := fun M => mm_ok1 M = true) mo_X6_water mo_X6_far) (mm_cd (P := fun M => mm_ok1 M = true) mo_X6_stone (mm_cd (P := fun M => mm_ok1 M = true) mo_X6_ofStone mo_X6_back))) (mm_cd (P := fun M => mm_ok1 M = true) (mm_cd (P := fun M => mm_ok1 M = true) mo_X6_ring mo_X6_meet) (mm_cd (P := fun M => mm_ok1 M = true) mo_X6_first (mm_cd (P := fun M => mm_ok1 M = true) mo_X6_wish mo_X6_ofWish)))) (mm_cd (P := fun M => mm_ok1 M = true) (mm_cd (P := fun M => mm_ok1 M = true) (mm_cd (P := fun M => mm_ok1 M = true) mo_X6_drop mo_X6_apart) (mm_cd (P := fun M => mm_ok1 M = true) mo_X6_atOnce (mm_cd (P := fun M => mm_ok1 M = true) mo_X6_soonest mo_X6_alone))) (mm_cd (P := fun M => mm_ok1 M = true) (mm_cd (P := fun M => mm_ok1 M = true) mo_X6_sunset mo_X6_reed) (mm_cd (P := fun M => mm_ok1 M = true) mo_X6_pull (mm_cd (P := fun M => mm_ok1 M = true) mo_X6_fits mo_X6_dig))))) (mm_cd (P := fun M => mm_ok1 M = true) (mm_cd (P := fun M => mm_ok1 M = true) (mm_cd (P := fun M => mm_ok1 M = true) (mm_cd (P := fun M => mm_ok1 M = true) mo_X6_sheet mo_X6_lose) (mm_cd (P := fun M => mm_ok1 M = true) mo_X6_put (mm_cd (P := fun M => mm_ok1 M = true) mo_X6_cell mo_X6_copy))) (mm_cd (P := fun M => mm_ok1 M = true) (mm_cd (P := fun M => mm_ok1 M = true) mo_X6_tell mo_X6_make) (mm_cd (P := fun M => mm_ok1 M = true) mo_X6_as (mm_cd (P := fun M => mm_ok1 M = true) mo_X6_trace mo_X6_fault)))) (mm_cd (P := fun M => mm_ok1 M = true) (mm_cd (P := fun M => mm_ok1 M = true) (mm_cd (P := fun M => mm_ok1 M = true) mo_X6_many mo_X6_faulty) (mm_cd (P := fun M => mm_ok1 M = true) mo_X6_isSheet (mm_cd (P := fun M => mm_ok1 M = true) mo_X6_isSort mo_X6_isKind))) (mm_cd (P := fun M => mm_ok1 M = true) (mm_cd (P := fun M => mm_ok1 M = true) mo_X6_isMinute mo_X6_lowestBit) (mm_cd (P := fun M => mm_ok1 M = true) mo_X6_fitsInCell (mm_cd (P := fun M => mm_ok1 M = true) mo_X6_firstFit mo_X6_mostTogetherIfDug))))))) (mm_cd (P := fun M => mm_ok1 M = true) (mm_cd (P := fun M => mm_ok1 M = true) (mm_cd (P := fun M => mm_ok1 M = true) (mm_cd (P := fun M => mm_ok1 M = true) (mm_cd (P := fun M => mm_ok1 M = true) (mm_cd (P := fun M => mm_ok1 M = true) mo_X6_mostTogether mo_X6_findClashes) (mm_cd (P := fun M => mm_ok1 M = true) mo_X6_isPeaceful (mm_cd (P := fun M => mm_ok1 M = true) mo_X6_leave mo_X6_stoneTells))) (mm_cd (P := fun M => mm_ok1 M = true) (mm_cd (P := fun M => mm_ok1 M = true) mo_X6_pebbleTells mo_X6_grainTells) (mm_cd (P := fun M => mm_ok1 M = true) mo_X6_lentMakes (mm_cd (P := fun M => mm_ok1 M = true) mo_X6_grainMakes mo_X7_fails)))) (mm_cd (P := fun M => mm_ok1 M = true) (mm_cd (P := fun M => mm_ok1 M = true) (mm_cd (P := fun M => mm_ok1 M = true) mo_X7_lost mo_X7_within) (mm_cd (P := fun M => mm_ok1 M = true) mo_X7_isSheet (mm_cd (P := fun M => mm_ok1 M = true) mo_X7_isSort mo_X7_against))) (mm_cd (P := fun M => mm_ok1 M = true) (mm_cd (P := fun M => mm_ok1 M = true) mo_X7_all mo_X7_isCell) (mm_cd (P := fun M => mm_ok1 M = true) mo_X7_digit (mm_cd (P := fun M => mm_ok1 M = true) mo_X7_pond mo_X7_readPond))))) (mm_cd (P := fun M => mm_ok1 M = true) (mm_cd (P := fun M => mm_ok1 M = true) (mm_cd (P := fun M => mm_ok1 M = true) (mm_cd (P := fun M => mm_ok1 M = true) mo_X7_beside mo_X7_way) (mm_cd (P := fun M => mm_ok1 M = true) mo_X7_layWays (mm_cd (P := fun M => mm_ok1 M = true) mo_X7_goOn mo_X7_water))) (mm_cd (P := fun M => mm_ok1 M = true) (mm_cd (P := fun M => mm_ok1 M = true) mo_X7_far mo_X7_reach) (mm_cd (P := fun M => mm_ok1 M = true) mo_X7_comes (mm_cd (P := fun M => mm_ok1 M = true) mo_X7_isStone mo_X7_stone)))) (mm_cd (P := fun M => mm_ok1 M = true) (mm_cd (P := fun M => mm_ok1 M = true) (mm_cd (P := fun M => mm_ok1 M = true) mo_X7_overAt mo_X7_ofStone) (mm_cd (P := fun M => mm_ok1 M = true) mo_X7_back (mm_cd (P := fun M => mm_ok1 M = true) mo_X7_ring mo_X7_offer))) (mm_cd (P := fun M => mm_ok1 M = true) (mm_cd (P := fun M => mm_ok1 M = true) mo_X7_findMeet mo_X7_isThere) (mm_cd (P := fun M => mm_ok1 M = true) mo_X7_meet (mm_cd (P := fun M => mm_ok1 M = true) mo_X7_first mo_X7_isWish)))))) (mm_cd (P := fun M => mm_ok1 M = true) (mm_cd (P := fun M => mm_ok1 M = true) (mm_cd (P := fun M => mm_ok1 M = true) (mm_cd (P := fun M => mm_ok1 M = true) (mm_cd (P := fun M => mm_ok1 M = true) mo_X7_wish mo_X7_ofWish) (mm_cd (P := fun M => mm_ok1 M = true) mo_X7_drop (mm_cd (P := fun M => mm_ok1 M = true) mo_X7_isWithin mo_X7_meetBy))) (mm_cd (P := fun M => mm_ok1 M = true) (mm_cd (P := fun M => mm_ok1 M = true) mo_X7_layMeets mo_X7_layMeetsAt) (mm_cd (P := fun M => mm_ok1 M = true) mo_X7_apart (mm_cd (P := fun M => mm_ok1 M = true) mo_X7_size mo_X7_mayAtOnce)))) (mm_cd (P := fun M => mm_ok1 M = true) (mm_cd (P := fun M => mm_ok1 M = true) (mm_cd (P := fun M => mm_ok1 M = true) mo_X7_mostAtOnce mo_X7_atOnce) (mm_cd (P := fun M => mm_ok1 M = true) mo_X7_mayBe (mm_cd (P := fun M => mm_ok1 M = true) mo_X7_mayGoOn mo_X7_find))) (mm_cd (P := fun M => mm_ok1 M = true) (mm_cd (P := fun M => mm_ok1 M = true) mo_X7_soonest mo_X7_alone) (mm_cd (P := fun M => mm_ok1 M = true) mo_X7_sunset (mm_cd (P := fun M => mm_ok1 M = true) mo_X7_reed mo_X7_pull))))) (mm_cd (P := fun M => mm_ok1 M = true) (mm_cd (P := fun M => mm_ok1 M = true) (mm_cd (P := fun M => mm_ok1 M = true) (mm_cd (P := fun M => mm_ok1 M = true) mo_X7_doesFit mo_X7_fits) (mm_cd (P := fun M => mm_ok1 M = true) mo_X7_dig (mm_cd (P := fun M => mm_ok1 M = true) mo_X7_sheet mo_X7_lose))) (mm_cd (P := fun M => mm_ok1 M = true) (mm_cd (P := fun M => mm_ok1 M = true) mo_X7_put mo_X7_cell) (mm_cd (P := fun M => mm_ok1 M = true) mo_X7_copy (mm_cd (P := fun M => mm_ok1 M = true) mo_X7_begins mo_X7_tell)))) (mm_cd (P := fun M => mm_ok1 M = true) (mm_cd (P := fun M => mm_ok1 M = true) (mm_cd (P := fun M => mm_ok1 M = true) mo_X7_make mo_X7_as) (mm_cd (P := fun M => mm_ok1 M = true) mo_X7_trace (mm_cd (P := fun M => mm_ok1 M = true) mo_X7_fault mo_X7_many))) (mm_cd (P := fun M => mm_ok1 M = true) (mm_cd (P := fun M => mm_ok1 M = true) mo_J6_bitCount_0f7a4 mo_J13_bitCount_95d88) (mm_cd (P := fun M => mm_ok1 M = true) mo_J7_fill_d0a16 (mm_cd (P := fun M => mm_ok1 M = true) mo_J7_fill_53178 mo_L_law))))))))
theorem mm_find_mem : ∀ {t : List (Nat × Instr × Nat)} {pc : Nat} {i : Instr}, mm_find t pc = some i → ∃ n, (pc, i, n) ∈ t
  | [], _, _, h => by cases h
  | e :: t, pc, i, h => by
    unfold mm_find at h
    cases hb : Nat.beq e.1 pc with
    | true =>
      rw [hb] at h
      have e1 : e.1 = pc := Nat.eq_of_beq_eq_true hb
      have e2 : e.2.1 = i := Option.some.inj h
      refine ⟨e.2.2, ?_⟩
      rw [← e1, ← e2]
      exact List.mem_cons_self
    | false =>
      rw [hb] at h
      obtain ⟨n, hn⟩ := mm_find_mem h
      exact ⟨n, List.mem_cons_of_mem _ hn⟩
theorem mm_find2_mem : ∀ {t : List (Nat × Nat)} {k z : Nat}, mm_find2 t k = some z → (k, z) ∈ t
  | [], _, _, h => by cases h
  | e :: t, k, z, h => by
    unfold mm_find2 at h
    cases hb : Nat.beq e.1 k with
    | true =>
      rw [hb] at h
      have e1 : e.1 = k := Nat.eq_of_beq_eq_true hb
      have e2 : e.2 = z := Option.some.inj h
      rw [← e1, ← e2]
      exact List.mem_cons_self
    | false =>
      rw [hb] at h
      exact List.mem_cons_of_mem _ (mm_find2_mem h)
theorem mm_find4_mem : ∀ {t : List (Nat × Nat × Nat × Nat)} {k : Nat} {z : Nat × Nat × Nat}, mm_find4 t k = some z → (k, z) ∈ t
  | [], _, _, h => by cases h
  | e :: t, k, z, h => by
    unfold mm_find4 at h
    cases hb : Nat.beq e.1 k with
    | true =>
      rw [hb] at h
      have e1 : e.1 = k := Nat.eq_of_beq_eq_true hb
      have e2 : e.2 = z := Option.some.inj h
      rw [← e1, ← e2]
      exact List.mem_cons_self
    | false =>
      rw [hb] at h
      exact List.mem_cons_of_mem _ (mm_find4_mem h)
theorem mm_dec {y pc : Nat} {i : Instr} (h : mm_find (mm_M y).1 pc = some i) : ∃ n, decode (mm_M y).2.2.1 pc = .ok (i, n) ∧ mm_len i n = true := by
  obtain ⟨n, hn⟩ := mm_find_mem h
  have h1 := List.all_eq_true.mp (mm_ok1_all y) _ hn
  rw [Bool.and_eq_true, decide_eq_true_eq] at h1
  exact ⟨n, h1⟩
end
section
/-! the tables' words (written by wip/whole/gen06.py) -/
def mm_K : List vw_C := [(RX0, TX0, 4), (RX1, TX1, 2), (RX2, TX2, 8), (RX3, TX3, 3), (RX4, TX4, 4), (RX5, TX5, 8), (RX6, TX6, 11), (RX7, TX7, 28)]
def mm_nm (o : Nat) : String := ([RX0, RX1, RX2, RX3, RX4, RX5, RX6, RX7, RL, RJ6, RJ13, RJ7] : List String).getD o ""
def mm_TB : List Cond := lw_tbl.filter goodWord
theorem mm_TB_good {w : Cond} (h : w ∈ mm_TB) : w ∈ lw_tbl ∧ ((w.onTables && w.keeps) = true ∨ ∃ ty, w = .arrayClass ty) := ⟨(List.mem_filter.mp h).1, good_of_word (List.mem_filter.mp h).2⟩
theorem mm_t0 {w : Cond} (i : Nat) (h : (k2_sels lw_privs)[i]? = some w) (g : goodWord w = true) : w ∈ mm_TB := List.mem_filter.mpr ⟨List.mem_append_left _ (List.mem_of_getElem? h), g⟩
theorem mm_t1 {w : Cond} (i : Nat) (h : tables_1_1[i]? = some w) (g : goodWord w = true) : w ∈ mm_TB := List.mem_filter.mpr ⟨List.mem_append_right _ (List.mem_append_left _ (List.mem_of_getElem? h)), g⟩
theorem mm_t2 {w : Cond} (i : Nat) (h : tables_1_2[i]? = some w) (g : goodWord w = true) : w ∈ mm_TB := List.mem_filter.mpr ⟨List.mem_append_right _ (List.mem_append_right _ (List.mem_append_left _ (List.mem_of_getElem? h))), g⟩
theorem mm_t3 {w : Cond} (i : Nat) (h : tables_1_3[i]? = some w) (g : goodWord w = true) : w ∈ mm_TB := List.mem_filter.mpr ⟨List.mem_append_right _ (List.mem_append_right _ (List.mem_append_right _ (List.mem_append_left _ (List.mem_of_getElem? h)))), g⟩
theorem mm_t4 {w : Cond} (i : Nat) (h : tables_1_4[i]? = some w) (g : goodWord w = true) : w ∈ mm_TB := List.mem_filter.mpr ⟨List.mem_append_right _ (List.mem_append_right _ (List.mem_append_right _ (List.mem_append_right _ (List.mem_append_left _ (List.mem_of_getElem? h))))), g⟩
theorem mm_t5 {w : Cond} (i : Nat) (h : tables_1_5[i]? = some w) (g : goodWord w = true) : w ∈ mm_TB := List.mem_filter.mpr ⟨List.mem_append_right _ (List.mem_append_right _ (List.mem_append_right _ (List.mem_append_right _ (List.mem_append_right _ (List.mem_of_getElem? h))))), g⟩
/-- a method that is called -/
def mm_cal (z : Nat) : Prop := Cond.initialized (mm_M z).2.1.cls ∈ mm_TB ∧ Cond.code (mm_M z).2.1 (mm_M z).2.2.1 (mm_M z).2.2.2.1 (mm_M z).2.2.2.2.1 ∈ mm_TB ∧ plainName (mm_M z).2.1.cls = true ∧ ((mm_M z).2.1.cls ≠ "java/lang/invoke/MethodHandle" ∧ (mm_M z).2.1.cls ≠ "java/lang/invoke/VarHandle" ∧ (parseMethodDescriptor (mm_M z).2.1.desc).map (fun d => d.parameters.length) = some (mm_M z).2.2.2.2.2.1) ∧ (mm_M z).2.2.2.1 ≤ 40 ∧ mm_nm (mm_M z).2.2.2.2.2.2 = (mm_M z).2.1.cls
def mm_inst (z : Nat) : Prop := Cond.instanceMethod (mm_M z).2.1 ∈ mm_TB ∧ Cond.selects (mm_M z).2.1.cls (mm_M z).2.1 (mm_M z).2.1 ∈ mm_TB ∧ (mm_K[(mm_M z).2.2.2.2.2.2]?).map (fun q => q.1) = some (mm_M z).2.1.cls
def mm_stat (z : Nat) : Prop := Cond.static (mm_M z).2.1 ∈ mm_TB
set_option maxRecDepth 20000 in
theorem mc_0 : mm_cal 0 := ⟨(mm_t1 (w := .initialized RX0) 5 (by decide +kernel) (by decide +kernel)), (mm_t2 (w := .code yX0_has cX0_has 2 (some .boolean)) 74 (by decide +kernel) (by decide +kernel)), by decide +kernel, ⟨by decide +kernel, by decide +kernel, by decide +kernel⟩, Nat.le_of_ble_eq_true rfl, rfl⟩
set_option maxRecDepth 20000 in
theorem mi_0 : mm_inst 0 := ⟨(mm_t2 (w := .instanceMethod yX0_has) 72 (by decide +kernel) (by decide +kernel)), (mm_t2 (w := .selects RX0 yX0_has yX0_has) 73 (by decide +kernel) (by decide +kernel)), rfl⟩
set_option maxRecDepth 20000 in
theorem mc_1 : mm_cal 1 := ⟨(mm_t1 (w := .initialized RX0) 5 (by decide +kernel) (by decide +kernel)), (mm_t2 (w := .code yX0_reach cX0_reach 2 (some .int)) 78 (by decide +kernel) (by decide +kernel)), by decide +kernel, ⟨by decide +kernel, by decide +kernel, by decide +kernel⟩, Nat.le_of_ble_eq_true rfl, rfl⟩
set_option maxRecDepth 20000 in
theorem mi_1 : mm_inst 1 := ⟨(mm_t2 (w := .instanceMethod yX0_reach) 76 (by decide +kernel) (by decide +kernel)), (mm_t2 (w := .selects RX0 yX0_reach yX0_reach) 77 (by decide +kernel) (by decide +kernel)), rfl⟩
set_option maxRecDepth 20000 in
theorem mc_2 : mm_cal 2 := ⟨(mm_t1 (w := .initialized RX0) 5 (by decide +kernel) (by decide +kernel)), (mm_t2 (w := .code yX0_add cX0_add 4 (some .int)) 66 (by decide +kernel) (by decide +kernel)), by decide +kernel, ⟨by decide +kernel, by decide +kernel, by decide +kernel⟩, Nat.le_of_ble_eq_true rfl, rfl⟩
set_option maxRecDepth 20000 in
theorem mi_2 : mm_inst 2 := ⟨(mm_t2 (w := .instanceMethod yX0_add) 64 (by decide +kernel) (by decide +kernel)), (mm_t2 (w := .selects RX0 yX0_add yX0_add) 65 (by decide +kernel) (by decide +kernel)), rfl⟩
set_option maxRecDepth 20000 in
theorem mc_3 : mm_cal 3 := ⟨(mm_t1 (w := .initialized RX0) 5 (by decide +kernel) (by decide +kernel)), (mm_t2 (w := .code yX0_takeBack cX0_takeBack 2 (some .int)) 89 (by decide +kernel) (by decide +kernel)), by decide +kernel, ⟨by decide +kernel, by decide +kernel, by decide +kernel⟩, Nat.le_of_ble_eq_true rfl, rfl⟩
set_option maxRecDepth 20000 in
theorem mi_3 : mm_inst 3 := ⟨(mm_t2 (w := .instanceMethod yX0_takeBack) 87 (by decide +kernel) (by decide +kernel)), (mm_t2 (w := .selects RX0 yX0_takeBack yX0_takeBack) 88 (by decide +kernel) (by decide +kernel)), rfl⟩
set_option maxRecDepth 20000 in
theorem mc_4 : mm_cal 4 := ⟨(mm_t1 (w := .initialized RX1) 6 (by decide +kernel) (by decide +kernel)), (mm_t2 (w := .code yX1_ofStones cX1_ofStones 7 (some .boolean)) 107 (by decide +kernel) (by decide +kernel)), by decide +kernel, ⟨by decide +kernel, by decide +kernel, by decide +kernel⟩, Nat.le_of_ble_eq_true rfl, rfl⟩
set_option maxRecDepth 20000 in
theorem mi_4 : mm_inst 4 := ⟨(mm_t2 (w := .instanceMethod yX1_ofStones) 105 (by decide +kernel) (by decide +kernel)), (mm_t2 (w := .selects RX1 yX1_ofStones yX1_ofStones) 106 (by decide +kernel) (by decide +kernel)), rfl⟩
set_option maxRecDepth 20000 in
theorem mc_5 : mm_cal 5 := ⟨(mm_t1 (w := .initialized RX1) 6 (by decide +kernel) (by decide +kernel)), (mm_t2 (w := .code yX1_ofTwo cX1_ofTwo 21 (some .boolean)) 111 (by decide +kernel) (by decide +kernel)), by decide +kernel, ⟨by decide +kernel, by decide +kernel, by decide +kernel⟩, Nat.le_of_ble_eq_true rfl, rfl⟩
set_option maxRecDepth 20000 in
theorem mi_5 : mm_inst 5 := ⟨(mm_t2 (w := .instanceMethod yX1_ofTwo) 109 (by decide +kernel) (by decide +kernel)), (mm_t2 (w := .selects RX1 yX1_ofTwo yX1_ofTwo) 110 (by decide +kernel) (by decide +kernel)), rfl⟩
set_option maxRecDepth 20000 in
theorem mc_6 : mm_cal 6 := ⟨(mm_t1 (w := .initialized RX2) 4 (by decide +kernel) (by decide +kernel)), (mm_t2 (w := .code yX2_begin cX2_begin 6 none) 11 (by decide +kernel) (by decide +kernel)), by decide +kernel, ⟨by decide +kernel, by decide +kernel, by decide +kernel⟩, Nat.le_of_ble_eq_true rfl, rfl⟩
set_option maxRecDepth 20000 in
theorem mi_6 : mm_inst 6 := ⟨(mm_t2 (w := .instanceMethod yX2_begin) 9 (by decide +kernel) (by decide +kernel)), (mm_t2 (w := .selects RX2 yX2_begin yX2_begin) 10 (by decide +kernel) (by decide +kernel)), rfl⟩
set_option maxRecDepth 20000 in
theorem mc_7 : mm_cal 7 := ⟨(mm_t1 (w := .initialized RX2) 4 (by decide +kernel) (by decide +kernel)), (mm_t2 (w := .code yX2_turnTo cX2_turnTo 3 none) 15 (by decide +kernel) (by decide +kernel)), by decide +kernel, ⟨by decide +kernel, by decide +kernel, by decide +kernel⟩, Nat.le_of_ble_eq_true rfl, rfl⟩
set_option maxRecDepth 20000 in
theorem mi_7 : mm_inst 7 := ⟨(mm_t2 (w := .instanceMethod yX2_turnTo) 13 (by decide +kernel) (by decide +kernel)), (mm_t2 (w := .selects RX2 yX2_turnTo yX2_turnTo) 14 (by decide +kernel) (by decide +kernel)), rfl⟩
set_option maxRecDepth 20000 in
theorem mc_8 : mm_cal 8 := ⟨(mm_t1 (w := .initialized RX2) 4 (by decide +kernel) (by decide +kernel)), (mm_t2 (w := .code yX2_has cX2_has 2 (some .boolean)) 27 (by decide +kernel) (by decide +kernel)), by decide +kernel, ⟨by decide +kernel, by decide +kernel, by decide +kernel⟩, Nat.le_of_ble_eq_true rfl, rfl⟩
set_option maxRecDepth 20000 in
theorem mi_8 : mm_inst 8 := ⟨(mm_t2 (w := .instanceMethod yX2_has) 25 (by decide +kernel) (by decide +kernel)), (mm_t2 (w := .selects RX2 yX2_has yX2_has) 26 (by decide +kernel) (by decide +kernel)), rfl⟩
set_option maxRecDepth 20000 in
theorem mc_9 : mm_cal 9 := ⟨(mm_t1 (w := .initialized RX2) 4 (by decide +kernel) (by decide +kernel)), (mm_t2 (w := .code yX2_isWater cX2_isWater 2 (some .boolean)) 31 (by decide +kernel) (by decide +kernel)), by decide +kernel, ⟨by decide +kernel, by decide +kernel, by decide +kernel⟩, Nat.le_of_ble_eq_true rfl, rfl⟩
set_option maxRecDepth 20000 in
theorem mi_9 : mm_inst 9 := ⟨(mm_t2 (w := .instanceMethod yX2_isWater) 29 (by decide +kernel) (by decide +kernel)), (mm_t2 (w := .selects RX2 yX2_isWater yX2_isWater) 30 (by decide +kernel) (by decide +kernel)), rfl⟩
set_option maxRecDepth 20000 in
theorem mc_10 : mm_cal 10 := ⟨(mm_t1 (w := .initialized RX2) 4 (by decide +kernel) (by decide +kernel)), (mm_t2 (w := .code yX2_steps cX2_steps 5 (some .int)) 39 (by decide +kernel) (by decide +kernel)), by decide +kernel, ⟨by decide +kernel, by decide +kernel, by decide +kernel⟩, Nat.le_of_ble_eq_true rfl, rfl⟩
set_option maxRecDepth 20000 in
theorem mi_10 : mm_inst 10 := ⟨(mm_t2 (w := .instanceMethod yX2_steps) 37 (by decide +kernel) (by decide +kernel)), (mm_t2 (w := .selects RX2 yX2_steps yX2_steps) 38 (by decide +kernel) (by decide +kernel)), rfl⟩
set_option maxRecDepth 20000 in
theorem mc_11 : mm_cal 11 := ⟨(mm_t1 (w := .initialized RX2) 4 (by decide +kernel) (by decide +kernel)), (mm_t2 (w := .code yX2_lasts cX2_lasts 3 (some .int)) 44 (by decide +kernel) (by decide +kernel)), by decide +kernel, ⟨by decide +kernel, by decide +kernel, by decide +kernel⟩, Nat.le_of_ble_eq_true rfl, rfl⟩
set_option maxRecDepth 20000 in
theorem mi_11 : mm_inst 11 := ⟨(mm_t2 (w := .instanceMethod yX2_lasts) 42 (by decide +kernel) (by decide +kernel)), (mm_t2 (w := .selects RX2 yX2_lasts yX2_lasts) 43 (by decide +kernel) (by decide +kernel)), rfl⟩
set_option maxRecDepth 20000 in
theorem mc_12 : mm_cal 12 := ⟨(mm_t1 (w := .initialized RX2) 4 (by decide +kernel) (by decide +kernel)), (mm_t2 (w := .code yX2_ringAt cX2_ringAt 4 (some .long)) 98 (by decide +kernel) (by decide +kernel)), by decide +kernel, ⟨by decide +kernel, by decide +kernel, by decide +kernel⟩, Nat.le_of_ble_eq_true rfl, rfl⟩
set_option maxRecDepth 20000 in
theorem mi_12 : mm_inst 12 := ⟨(mm_t2 (w := .instanceMethod yX2_ringAt) 96 (by decide +kernel) (by decide +kernel)), (mm_t2 (w := .selects RX2 yX2_ringAt yX2_ringAt) 97 (by decide +kernel) (by decide +kernel)), rfl⟩
set_option maxRecDepth 20000 in
theorem mc_13 : mm_cal 13 := ⟨(mm_t1 (w := .initialized RX2) 4 (by decide +kernel) (by decide +kernel)), (mm_t2 (w := .code yX2_spread cX2_spread 9 none) 48 (by decide +kernel) (by decide +kernel)), by decide +kernel, ⟨by decide +kernel, by decide +kernel, by decide +kernel⟩, Nat.le_of_ble_eq_true rfl, rfl⟩
set_option maxRecDepth 20000 in
theorem mi_13 : mm_inst 13 := ⟨(mm_t2 (w := .instanceMethod yX2_spread) 47 (by decide +kernel) (by decide +kernel)), (mm_t0 (w := .selects RX2 yX2_spread yX2_spread) 4 (by decide +kernel) (by decide +kernel)), rfl⟩
set_option maxRecDepth 20000 in
theorem mc_14 : mm_cal 14 := ⟨(mm_t1 (w := .initialized RX2) 4 (by decide +kernel) (by decide +kernel)), (mm_t2 (w := .code yX2_lesserBeside cX2_lesserBeside 7 (some .long)) 118 (by decide +kernel) (by decide +kernel)), by decide +kernel, ⟨by decide +kernel, by decide +kernel, by decide +kernel⟩, Nat.le_of_ble_eq_true rfl, rfl⟩
set_option maxRecDepth 20000 in
theorem mi_14 : mm_inst 14 := ⟨(mm_t2 (w := .instanceMethod yX2_lesserBeside) 116 (by decide +kernel) (by decide +kernel)), (mm_t2 (w := .selects RX2 yX2_lesserBeside yX2_lesserBeside) 117 (by decide +kernel) (by decide +kernel)), rfl⟩
set_option maxRecDepth 20000 in
theorem mc_15 : mm_cal 15 := ⟨(mm_t1 (w := .initialized RX3) 3 (by decide +kernel) (by decide +kernel)), (mm_t1 (w := .code yX3_read cX3_read 5 (some .int)) 235 (by decide +kernel) (by decide +kernel)), by decide +kernel, ⟨by decide +kernel, by decide +kernel, by decide +kernel⟩, Nat.le_of_ble_eq_true rfl, rfl⟩
set_option maxRecDepth 20000 in
theorem mi_15 : mm_inst 15 := ⟨(mm_t1 (w := .instanceMethod yX3_read) 233 (by decide +kernel) (by decide +kernel)), (mm_t1 (w := .selects RX3 yX3_read yX3_read) 234 (by decide +kernel) (by decide +kernel)), rfl⟩
set_option maxRecDepth 20000 in
theorem mc_16 : mm_cal 16 := ⟨(mm_t1 (w := .initialized RX3) 3 (by decide +kernel) (by decide +kernel)), (mm_t2 (w := .code yX3_end cX3_end 1 (some .int)) 3 (by decide +kernel) (by decide +kernel)), by decide +kernel, ⟨by decide +kernel, by decide +kernel, by decide +kernel⟩, Nat.le_of_ble_eq_true rfl, rfl⟩
set_option maxRecDepth 20000 in
theorem mi_16 : mm_inst 16 := ⟨(mm_t2 (w := .instanceMethod yX3_end) 2 (by decide +kernel) (by decide +kernel)), (mm_t0 (w := .selects RX3 yX3_end yX3_end) 2 (by decide +kernel) (by decide +kernel)), rfl⟩
set_option maxRecDepth 20000 in
theorem mc_17 : mm_cal 17 := ⟨(mm_t1 (w := .initialized RX3) 3 (by decide +kernel) (by decide +kernel)), (mm_t1 (w := .code yX3_goesOn cX3_goesOn 3 (some .boolean)) 239 (by decide +kernel) (by decide +kernel)), by decide +kernel, ⟨by decide +kernel, by decide +kernel, by decide +kernel⟩, Nat.le_of_ble_eq_true rfl, rfl⟩
set_option maxRecDepth 20000 in
theorem mi_17 : mm_inst 17 := ⟨(mm_t1 (w := .instanceMethod yX3_goesOn) 238 (by decide +kernel) (by decide +kernel)), (mm_t0 (w := .selects RX3 yX3_goesOn yX3_goesOn) 1 (by decide +kernel) (by decide +kernel)), rfl⟩
set_option maxRecDepth 20000 in
theorem mc_18 : mm_cal 18 := ⟨(mm_t1 (w := .initialized RX3) 3 (by decide +kernel) (by decide +kernel)), (mm_t2 (w := .code yX3_goesOnInRows cX3_goesOnInRows 4 (some .boolean)) 7 (by decide +kernel) (by decide +kernel)), by decide +kernel, ⟨by decide +kernel, by decide +kernel, by decide +kernel⟩, Nat.le_of_ble_eq_true rfl, rfl⟩
set_option maxRecDepth 20000 in
theorem mi_18 : mm_inst 18 := ⟨(mm_t2 (w := .instanceMethod yX3_goesOnInRows) 6 (by decide +kernel) (by decide +kernel)), (mm_t0 (w := .selects RX3 yX3_goesOnInRows yX3_goesOnInRows) 3 (by decide +kernel) (by decide +kernel)), rfl⟩
set_option maxRecDepth 20000 in
theorem mc_19 : mm_cal 19 := ⟨(mm_t1 (w := .initialized RX4) 2 (by decide +kernel) (by decide +kernel)), (mm_t3 (w := .code yX4_renew cX4_renew 3 none) 59 (by decide +kernel) (by decide +kernel)), by decide +kernel, ⟨by decide +kernel, by decide +kernel, by decide +kernel⟩, Nat.le_of_ble_eq_true rfl, rfl⟩
set_option maxRecDepth 20000 in
theorem mi_19 : mm_inst 19 := ⟨(mm_t3 (w := .instanceMethod yX4_renew) 57 (by decide +kernel) (by decide +kernel)), (mm_t3 (w := .selects RX4 yX4_renew yX4_renew) 58 (by decide +kernel) (by decide +kernel)), rfl⟩
set_option maxRecDepth 20000 in
theorem mc_20 : mm_cal 20 := ⟨(mm_t1 (w := .initialized RX4) 2 (by decide +kernel) (by decide +kernel)), (mm_t1 (w := .code yX4_isOfAnother cX4_isOfAnother 2 (some .boolean)) 223 (by decide +kernel) (by decide +kernel)), by decide +kernel, ⟨by decide +kernel, by decide +kernel, by decide +kernel⟩, Nat.le_of_ble_eq_true rfl, rfl⟩
set_option maxRecDepth 20000 in
theorem mi_20 : mm_inst 20 := ⟨(mm_t1 (w := .instanceMethod yX4_isOfAnother) 221 (by decide +kernel) (by decide +kernel)), (mm_t1 (w := .selects RX4 yX4_isOfAnother yX4_isOfAnother) 222 (by decide +kernel) (by decide +kernel)), rfl⟩
set_option maxRecDepth 20000 in
theorem mc_21 : mm_cal 21 := ⟨(mm_t1 (w := .initialized RX4) 2 (by decide +kernel) (by decide +kernel)), (mm_t1 (w := .code yX4_hasCells cX4_hasCells 3 (some .boolean)) 231 (by decide +kernel) (by decide +kernel)), by decide +kernel, ⟨by decide +kernel, by decide +kernel, by decide +kernel⟩, Nat.le_of_ble_eq_true rfl, rfl⟩
set_option maxRecDepth 20000 in
theorem mi_21 : mm_inst 21 := ⟨(mm_t1 (w := .instanceMethod yX4_hasCells) 229 (by decide +kernel) (by decide +kernel)), (mm_t1 (w := .selects RX4 yX4_hasCells yX4_hasCells) 230 (by decide +kernel) (by decide +kernel)), rfl⟩
set_option maxRecDepth 20000 in
theorem mc_22 : mm_cal 22 := ⟨(mm_t1 (w := .initialized RX4) 2 (by decide +kernel) (by decide +kernel)), (mm_t3 (w := .code yX4_take cX4_take 3 none) 72 (by decide +kernel) (by decide +kernel)), by decide +kernel, ⟨by decide +kernel, by decide +kernel, by decide +kernel⟩, Nat.le_of_ble_eq_true rfl, rfl⟩
set_option maxRecDepth 20000 in
theorem mi_22 : mm_inst 22 := ⟨(mm_t3 (w := .instanceMethod yX4_take) 70 (by decide +kernel) (by decide +kernel)), (mm_t3 (w := .selects RX4 yX4_take yX4_take) 71 (by decide +kernel) (by decide +kernel)), rfl⟩
set_option maxRecDepth 20000 in
theorem mc_23 : mm_cal 23 := ⟨(mm_t1 (w := .initialized RX5) 7 (by decide +kernel) (by decide +kernel)), (mm_t2 (w := .code yX5_forgetPlan cX5_forgetPlan 1 none) 19 (by decide +kernel) (by decide +kernel)), by decide +kernel, ⟨by decide +kernel, by decide +kernel, by decide +kernel⟩, Nat.le_of_ble_eq_true rfl, rfl⟩
set_option maxRecDepth 20000 in
theorem mi_23 : mm_inst 23 := ⟨(mm_t2 (w := .instanceMethod yX5_forgetPlan) 17 (by decide +kernel) (by decide +kernel)), (mm_t2 (w := .selects RX5 yX5_forgetPlan yX5_forgetPlan) 18 (by decide +kernel) (by decide +kernel)), rfl⟩
set_option maxRecDepth 20000 in
theorem mc_24 : mm_cal 24 := ⟨(mm_t1 (w := .initialized RX5) 7 (by decide +kernel) (by decide +kernel)), (mm_t2 (w := .code yX5_learn cX5_learn 6 none) 140 (by decide +kernel) (by decide +kernel)), by decide +kernel, ⟨by decide +kernel, by decide +kernel, by decide +kernel⟩, Nat.le_of_ble_eq_true rfl, rfl⟩
set_option maxRecDepth 20000 in
theorem mi_24 : mm_inst 24 := ⟨(mm_t2 (w := .instanceMethod yX5_learn) 138 (by decide +kernel) (by decide +kernel)), (mm_t2 (w := .selects RX5 yX5_learn yX5_learn) 139 (by decide +kernel) (by decide +kernel)), rfl⟩
set_option maxRecDepth 20000 in
theorem mc_25 : mm_cal 25 := ⟨(mm_t1 (w := .initialized RX5) 7 (by decide +kernel) (by decide +kernel)), (mm_t2 (w := .code yX5_learnPair cX5_learnPair 12 none) 145 (by decide +kernel) (by decide +kernel)), by decide +kernel, ⟨by decide +kernel, by decide +kernel, by decide +kernel⟩, Nat.le_of_ble_eq_true rfl, rfl⟩
set_option maxRecDepth 20000 in
theorem mi_25 : mm_inst 25 := ⟨(mm_t2 (w := .instanceMethod yX5_learnPair) 144 (by decide +kernel) (by decide +kernel)), (mm_t0 (w := .selects RX5 yX5_learnPair yX5_learnPair) 5 (by decide +kernel) (by decide +kernel)), rfl⟩
set_option maxRecDepth 20000 in
theorem mc_26 : mm_cal 26 := ⟨(mm_t1 (w := .initialized RX5) 7 (by decide +kernel) (by decide +kernel)), (mm_t2 (w := .code yX5_leastGap cX5_leastGap 3 (some .int)) 164 (by decide +kernel) (by decide +kernel)), by decide +kernel, ⟨by decide +kernel, by decide +kernel, by decide +kernel⟩, Nat.le_of_ble_eq_true rfl, rfl⟩
set_option maxRecDepth 20000 in
theorem mi_26 : mm_inst 26 := ⟨(mm_t2 (w := .instanceMethod yX5_leastGap) 162 (by decide +kernel) (by decide +kernel)), (mm_t2 (w := .selects RX5 yX5_leastGap yX5_leastGap) 163 (by decide +kernel) (by decide +kernel)), rfl⟩
set_option maxRecDepth 20000 in
theorem mc_27 : mm_cal 27 := ⟨(mm_t1 (w := .initialized RX5) 7 (by decide +kernel) (by decide +kernel)), (mm_t3 (w := .code yX5_throwInTurn cX5_throwInTurn 5 (some .int)) 5 (by decide +kernel) (by decide +kernel)), by decide +kernel, ⟨by decide +kernel, by decide +kernel, by decide +kernel⟩, Nat.le_of_ble_eq_true rfl, rfl⟩
set_option maxRecDepth 20000 in
theorem mi_27 : mm_inst 27 := ⟨(mm_t3 (w := .instanceMethod yX5_throwInTurn) 3 (by decide +kernel) (by decide +kernel)), (mm_t3 (w := .selects RX5 yX5_throwInTurn yX5_throwInTurn) 4 (by decide +kernel) (by decide +kernel)), rfl⟩
set_option maxRecDepth 20000 in
theorem mc_28 : mm_cal 28 := ⟨(mm_t1 (w := .initialized RX5) 7 (by decide +kernel) (by decide +kernel)), (mm_t3 (w := .code yX5_meetsOneAhead cX5_meetsOneAhead 8 (some .boolean)) 9 (by decide +kernel) (by decide +kernel)), by decide +kernel, ⟨by decide +kernel, by decide +kernel, by decide +kernel⟩, Nat.le_of_ble_eq_true rfl, rfl⟩
set_option maxRecDepth 20000 in
theorem mi_28 : mm_inst 28 := ⟨(mm_t3 (w := .instanceMethod yX5_meetsOneAhead) 8 (by decide +kernel) (by decide +kernel)), (mm_t0 (w := .selects RX5 yX5_meetsOneAhead yX5_meetsOneAhead) 16 (by decide +kernel) (by decide +kernel)), rfl⟩
set_option maxRecDepth 20000 in
theorem mc_29 : mm_cal 29 := ⟨(mm_t1 (w := .initialized RX5) 7 (by decide +kernel) (by decide +kernel)), (mm_t2 (w := .code yX5_makePlan cX5_makePlan 5 none) 200 (by decide +kernel) (by decide +kernel)), by decide +kernel, ⟨by decide +kernel, by decide +kernel, by decide +kernel⟩, Nat.le_of_ble_eq_true rfl, rfl⟩
set_option maxRecDepth 20000 in
theorem mi_29 : mm_inst 29 := ⟨(mm_t2 (w := .instanceMethod yX5_makePlan) 198 (by decide +kernel) (by decide +kernel)), (mm_t2 (w := .selects RX5 yX5_makePlan yX5_makePlan) 199 (by decide +kernel) (by decide +kernel)), rfl⟩
set_option maxRecDepth 20000 in
theorem mc_30 : mm_cal 30 := ⟨(mm_t1 (w := .initialized RX5) 7 (by decide +kernel) (by decide +kernel)), (mm_t2 (w := .code yX5_firstThatWillDo cX5_firstThatWillDo 7 (some .int)) 237 (by decide +kernel) (by decide +kernel)), by decide +kernel, ⟨by decide +kernel, by decide +kernel, by decide +kernel⟩, Nat.le_of_ble_eq_true rfl, rfl⟩
set_option maxRecDepth 20000 in
theorem mi_30 : mm_inst 30 := ⟨(mm_t2 (w := .instanceMethod yX5_firstThatWillDo) 236 (by decide +kernel) (by decide +kernel)), (mm_t0 (w := .selects RX5 yX5_firstThatWillDo yX5_firstThatWillDo) 15 (by decide +kernel) (by decide +kernel)), rfl⟩
set_option maxRecDepth 20000 in
theorem mc_31 : mm_cal 31 := ⟨(mm_t1 (w := .initialized RX5) 7 (by decide +kernel) (by decide +kernel)), (mm_t2 (w := .code yX5_widestPair cX5_widestPair 5 (some .int)) 204 (by decide +kernel) (by decide +kernel)), by decide +kernel, ⟨by decide +kernel, by decide +kernel, by decide +kernel⟩, Nat.le_of_ble_eq_true rfl, rfl⟩
set_option maxRecDepth 20000 in
theorem mi_31 : mm_inst 31 := ⟨(mm_t2 (w := .instanceMethod yX5_widestPair) 203 (by decide +kernel) (by decide +kernel)), (mm_t0 (w := .selects RX5 yX5_widestPair yX5_widestPair) 9 (by decide +kernel) (by decide +kernel)), rfl⟩
set_option maxRecDepth 20000 in
theorem mc_32 : mm_cal 32 := ⟨(mm_t1 (w := .initialized RX5) 7 (by decide +kernel) (by decide +kernel)), (mm_t3 (w := .code yX5_mostBy cX5_mostBy 5 (some .int)) 20 (by decide +kernel) (by decide +kernel)), by decide +kernel, ⟨by decide +kernel, by decide +kernel, by decide +kernel⟩, Nat.le_of_ble_eq_true rfl, rfl⟩
set_option maxRecDepth 20000 in
theorem mi_32 : mm_inst 32 := ⟨(mm_t3 (w := .instanceMethod yX5_mostBy) 18 (by decide +kernel) (by decide +kernel)), (mm_t3 (w := .selects RX5 yX5_mostBy yX5_mostBy) 19 (by decide +kernel) (by decide +kernel)), rfl⟩
set_option maxRecDepth 20000 in
theorem mc_33 : mm_cal 33 := ⟨(mm_t1 (w := .initialized RX5) 7 (by decide +kernel) (by decide +kernel)), (mm_t2 (w := .code yX5_canThrow cX5_canThrow 4 (some .boolean)) 213 (by decide +kernel) (by decide +kernel)), by decide +kernel, ⟨by decide +kernel, by decide +kernel, by decide +kernel⟩, Nat.le_of_ble_eq_true rfl, rfl⟩
set_option maxRecDepth 20000 in
theorem mi_33 : mm_inst 33 := ⟨(mm_t2 (w := .instanceMethod yX5_canThrow) 212 (by decide +kernel) (by decide +kernel)), (mm_t0 (w := .selects RX5 yX5_canThrow yX5_canThrow) 10 (by decide +kernel) (by decide +kernel)), rfl⟩
set_option maxRecDepth 20000 in
theorem mc_34 : mm_cal 34 := ⟨(mm_t1 (w := .initialized RX5) 7 (by decide +kernel) (by decide +kernel)), (mm_t2 (w := .code yX5_weightIn cX5_weightIn 5 (some .int)) 220 (by decide +kernel) (by decide +kernel)), by decide +kernel, ⟨by decide +kernel, by decide +kernel, by decide +kernel⟩, Nat.le_of_ble_eq_true rfl, rfl⟩
set_option maxRecDepth 20000 in
theorem mi_34 : mm_inst 34 := ⟨(mm_t2 (w := .instanceMethod yX5_weightIn) 219 (by decide +kernel) (by decide +kernel)), (mm_t0 (w := .selects RX5 yX5_weightIn yX5_weightIn) 11 (by decide +kernel) (by decide +kernel)), rfl⟩
set_option maxRecDepth 20000 in
theorem mc_35 : mm_cal 35 := ⟨(mm_t1 (w := .initialized RX5) 7 (by decide +kernel) (by decide +kernel)), (mm_t2 (w := .code yX5_canPlace cX5_canPlace 9 (some .boolean)) 225 (by decide +kernel) (by decide +kernel)), by decide +kernel, ⟨by decide +kernel, by decide +kernel, by decide +kernel⟩, Nat.le_of_ble_eq_true rfl, rfl⟩
set_option maxRecDepth 20000 in
theorem mi_35 : mm_inst 35 := ⟨(mm_t2 (w := .instanceMethod yX5_canPlace) 224 (by decide +kernel) (by decide +kernel)), (mm_t0 (w := .selects RX5 yX5_canPlace yX5_canPlace) 12 (by decide +kernel) (by decide +kernel)), rfl⟩
set_option maxRecDepth 20000 in
theorem mc_36 : mm_cal 36 := ⟨(mm_t1 (w := .initialized RX5) 7 (by decide +kernel) (by decide +kernel)), (mm_t2 (w := .code yX5_tightest cX5_tightest 7 (some .int)) 229 (by decide +kernel) (by decide +kernel)), by decide +kernel, ⟨by decide +kernel, by decide +kernel, by decide +kernel⟩, Nat.le_of_ble_eq_true rfl, rfl⟩
set_option maxRecDepth 20000 in
theorem mi_36 : mm_inst 36 := ⟨(mm_t2 (w := .instanceMethod yX5_tightest) 228 (by decide +kernel) (by decide +kernel)), (mm_t0 (w := .selects RX5 yX5_tightest yX5_tightest) 13 (by decide +kernel) (by decide +kernel)), rfl⟩
set_option maxRecDepth 20000 in
theorem mc_37 : mm_cal 37 := ⟨(mm_t1 (w := .initialized RX5) 7 (by decide +kernel) (by decide +kernel)), (mm_t2 (w := .code yX5_leavesRoom cX5_leavesRoom 11 (some .boolean)) 233 (by decide +kernel) (by decide +kernel)), by decide +kernel, ⟨by decide +kernel, by decide +kernel, by decide +kernel⟩, Nat.le_of_ble_eq_true rfl, rfl⟩
set_option maxRecDepth 20000 in
theorem mi_37 : mm_inst 37 := ⟨(mm_t2 (w := .instanceMethod yX5_leavesRoom) 232 (by decide +kernel) (by decide +kernel)), (mm_t0 (w := .selects RX5 yX5_leavesRoom yX5_leavesRoom) 14 (by decide +kernel) (by decide +kernel)), rfl⟩
set_option maxRecDepth 20000 in
theorem mc_38 : mm_cal 38 := ⟨(mm_t1 (w := .initialized RX6) 1 (by decide +kernel) (by decide +kernel)), (mm_t1 (w := .code yX6_pond cX6_pond 7 (some .int)) 213 (by decide +kernel) (by decide +kernel)), by decide +kernel, ⟨by decide +kernel, by decide +kernel, by decide +kernel⟩, Nat.le_of_ble_eq_true rfl, rfl⟩
set_option maxRecDepth 20000 in
theorem mi_38 : mm_inst 38 := ⟨(mm_t1 (w := .instanceMethod yX6_pond) 211 (by decide +kernel) (by decide +kernel)), (mm_t1 (w := .selects RX6 yX6_pond yX6_pond) 212 (by decide +kernel) (by decide +kernel)), rfl⟩
set_option maxRecDepth 20000 in
theorem mc_39 : mm_cal 39 := ⟨(mm_t1 (w := .initialized RX6) 1 (by decide +kernel) (by decide +kernel)), (mm_t2 (w := .code yX6_water cX6_water 2 (some .int)) 23 (by decide +kernel) (by decide +kernel)), by decide +kernel, ⟨by decide +kernel, by decide +kernel, by decide +kernel⟩, Nat.le_of_ble_eq_true rfl, rfl⟩
set_option maxRecDepth 20000 in
theorem mi_39 : mm_inst 39 := ⟨(mm_t2 (w := .instanceMethod yX6_water) 21 (by decide +kernel) (by decide +kernel)), (mm_t2 (w := .selects RX6 yX6_water yX6_water) 22 (by decide +kernel) (by decide +kernel)), rfl⟩
set_option maxRecDepth 20000 in
theorem mc_40 : mm_cal 40 := ⟨(mm_t1 (w := .initialized RX6) 1 (by decide +kernel) (by decide +kernel)), (mm_t2 (w := .code yX6_far cX6_far 3 (some .int)) 35 (by decide +kernel) (by decide +kernel)), by decide +kernel, ⟨by decide +kernel, by decide +kernel, by decide +kernel⟩, Nat.le_of_ble_eq_true rfl, rfl⟩
set_option maxRecDepth 20000 in
theorem mi_40 : mm_inst 40 := ⟨(mm_t2 (w := .instanceMethod yX6_far) 33 (by decide +kernel) (by decide +kernel)), (mm_t2 (w := .selects RX6 yX6_far yX6_far) 34 (by decide +kernel) (by decide +kernel)), rfl⟩
set_option maxRecDepth 20000 in
theorem mc_41 : mm_cal 41 := ⟨(mm_t1 (w := .initialized RX6) 1 (by decide +kernel) (by decide +kernel)), (mm_t2 (w := .code yX6_stone cX6_stone 4 (some .int)) 56 (by decide +kernel) (by decide +kernel)), by decide +kernel, ⟨by decide +kernel, by decide +kernel, by decide +kernel⟩, Nat.le_of_ble_eq_true rfl, rfl⟩
set_option maxRecDepth 20000 in
theorem mi_41 : mm_inst 41 := ⟨(mm_t2 (w := .instanceMethod yX6_stone) 54 (by decide +kernel) (by decide +kernel)), (mm_t2 (w := .selects RX6 yX6_stone yX6_stone) 55 (by decide +kernel) (by decide +kernel)), rfl⟩
set_option maxRecDepth 20000 in
theorem mc_42 : mm_cal 42 := ⟨(mm_t1 (w := .initialized RX6) 1 (by decide +kernel) (by decide +kernel)), (mm_t2 (w := .code yX6_ofStone cX6_ofStone 3 (some .int)) 70 (by decide +kernel) (by decide +kernel)), by decide +kernel, ⟨by decide +kernel, by decide +kernel, by decide +kernel⟩, Nat.le_of_ble_eq_true rfl, rfl⟩
set_option maxRecDepth 20000 in
theorem mi_42 : mm_inst 42 := ⟨(mm_t2 (w := .instanceMethod yX6_ofStone) 68 (by decide +kernel) (by decide +kernel)), (mm_t2 (w := .selects RX6 yX6_ofStone yX6_ofStone) 69 (by decide +kernel) (by decide +kernel)), rfl⟩
set_option maxRecDepth 20000 in
theorem mc_43 : mm_cal 43 := ⟨(mm_t1 (w := .initialized RX6) 1 (by decide +kernel) (by decide +kernel)), (mm_t2 (w := .code yX6_back cX6_back 2 (some .int)) 85 (by decide +kernel) (by decide +kernel)), by decide +kernel, ⟨by decide +kernel, by decide +kernel, by decide +kernel⟩, Nat.le_of_ble_eq_true rfl, rfl⟩
set_option maxRecDepth 20000 in
theorem mi_43 : mm_inst 43 := ⟨(mm_t2 (w := .instanceMethod yX6_back) 83 (by decide +kernel) (by decide +kernel)), (mm_t2 (w := .selects RX6 yX6_back yX6_back) 84 (by decide +kernel) (by decide +kernel)), rfl⟩
set_option maxRecDepth 20000 in
theorem mc_44 : mm_cal 44 := ⟨(mm_t1 (w := .initialized RX6) 1 (by decide +kernel) (by decide +kernel)), (mm_t2 (w := .code yX6_ring cX6_ring 4 (some .long)) 93 (by decide +kernel) (by decide +kernel)), by decide +kernel, ⟨by decide +kernel, by decide +kernel, by decide +kernel⟩, Nat.le_of_ble_eq_true rfl, rfl⟩
set_option maxRecDepth 20000 in
theorem mi_44 : mm_inst 44 := ⟨(mm_t2 (w := .instanceMethod yX6_ring) 91 (by decide +kernel) (by decide +kernel)), (mm_t2 (w := .selects RX6 yX6_ring yX6_ring) 92 (by decide +kernel) (by decide +kernel)), rfl⟩
set_option maxRecDepth 20000 in
theorem mc_45 : mm_cal 45 := ⟨(mm_t1 (w := .initialized RX6) 1 (by decide +kernel) (by decide +kernel)), (mm_t2 (w := .code yX6_meet cX6_meet 4 (some .int)) 103 (by decide +kernel) (by decide +kernel)), by decide +kernel, ⟨by decide +kernel, by decide +kernel, by decide +kernel⟩, Nat.le_of_ble_eq_true rfl, rfl⟩
set_option maxRecDepth 20000 in
theorem mi_45 : mm_inst 45 := ⟨(mm_t2 (w := .instanceMethod yX6_meet) 101 (by decide +kernel) (by decide +kernel)), (mm_t2 (w := .selects RX6 yX6_meet yX6_meet) 102 (by decide +kernel) (by decide +kernel)), rfl⟩
set_option maxRecDepth 20000 in
theorem mc_46 : mm_cal 46 := ⟨(mm_t1 (w := .initialized RX6) 1 (by decide +kernel) (by decide +kernel)), (mm_t2 (w := .code yX6_first cX6_first 7 (some .int)) 132 (by decide +kernel) (by decide +kernel)), by decide +kernel, ⟨by decide +kernel, by decide +kernel, by decide +kernel⟩, Nat.le_of_ble_eq_true rfl, rfl⟩
set_option maxRecDepth 20000 in
theorem mi_46 : mm_inst 46 := ⟨(mm_t2 (w := .instanceMethod yX6_first) 130 (by decide +kernel) (by decide +kernel)), (mm_t2 (w := .selects RX6 yX6_first yX6_first) 131 (by decide +kernel) (by decide +kernel)), rfl⟩
set_option maxRecDepth 20000 in
theorem mc_47 : mm_cal 47 := ⟨(mm_t1 (w := .initialized RX6) 1 (by decide +kernel) (by decide +kernel)), (mm_t2 (w := .code yX6_wish cX6_wish 4 (some .int)) 136 (by decide +kernel) (by decide +kernel)), by decide +kernel, ⟨by decide +kernel, by decide +kernel, by decide +kernel⟩, Nat.le_of_ble_eq_true rfl, rfl⟩
set_option maxRecDepth 20000 in
theorem mi_47 : mm_inst 47 := ⟨(mm_t2 (w := .instanceMethod yX6_wish) 134 (by decide +kernel) (by decide +kernel)), (mm_t2 (w := .selects RX6 yX6_wish yX6_wish) 135 (by decide +kernel) (by decide +kernel)), rfl⟩
set_option maxRecDepth 20000 in
theorem mc_48 : mm_cal 48 := ⟨(mm_t1 (w := .initialized RX6) 1 (by decide +kernel) (by decide +kernel)), (mm_t2 (w := .code yX6_ofWish cX6_ofWish 3 (some .int)) 152 (by decide +kernel) (by decide +kernel)), by decide +kernel, ⟨by decide +kernel, by decide +kernel, by decide +kernel⟩, Nat.le_of_ble_eq_true rfl, rfl⟩
set_option maxRecDepth 20000 in
theorem mi_48 : mm_inst 48 := ⟨(mm_t2 (w := .instanceMethod yX6_ofWish) 150 (by decide +kernel) (by decide +kernel)), (mm_t2 (w := .selects RX6 yX6_ofWish yX6_ofWish) 151 (by decide +kernel) (by decide +kernel)), rfl⟩
set_option maxRecDepth 20000 in
theorem mc_49 : mm_cal 49 := ⟨(mm_t1 (w := .initialized RX6) 1 (by decide +kernel) (by decide +kernel)), (mm_t2 (w := .code yX6_drop cX6_drop 3 (some .int)) 156 (by decide +kernel) (by decide +kernel)), by decide +kernel, ⟨by decide +kernel, by decide +kernel, by decide +kernel⟩, Nat.le_of_ble_eq_true rfl, rfl⟩
set_option maxRecDepth 20000 in
theorem mi_49 : mm_inst 49 := ⟨(mm_t2 (w := .instanceMethod yX6_drop) 154 (by decide +kernel) (by decide +kernel)), (mm_t2 (w := .selects RX6 yX6_drop yX6_drop) 155 (by decide +kernel) (by decide +kernel)), rfl⟩
set_option maxRecDepth 20000 in
theorem mc_50 : mm_cal 50 := ⟨(mm_t1 (w := .initialized RX6) 1 (by decide +kernel) (by decide +kernel)), (mm_t2 (w := .code yX6_apart cX6_apart 3 (some .int)) 160 (by decide +kernel) (by decide +kernel)), by decide +kernel, ⟨by decide +kernel, by decide +kernel, by decide +kernel⟩, Nat.le_of_ble_eq_true rfl, rfl⟩
set_option maxRecDepth 20000 in
theorem mi_50 : mm_inst 50 := ⟨(mm_t2 (w := .instanceMethod yX6_apart) 158 (by decide +kernel) (by decide +kernel)), (mm_t2 (w := .selects RX6 yX6_apart yX6_apart) 159 (by decide +kernel) (by decide +kernel)), rfl⟩
set_option maxRecDepth 20000 in
theorem mc_51 : mm_cal 51 := ⟨(mm_t1 (w := .initialized RX6) 1 (by decide +kernel) (by decide +kernel)), (mm_t2 (w := .code yX6_atOnce cX6_atOnce 1 (some .int)) 170 (by decide +kernel) (by decide +kernel)), by decide +kernel, ⟨by decide +kernel, by decide +kernel, by decide +kernel⟩, Nat.le_of_ble_eq_true rfl, rfl⟩
set_option maxRecDepth 20000 in
theorem mi_51 : mm_inst 51 := ⟨(mm_t2 (w := .instanceMethod yX6_atOnce) 168 (by decide +kernel) (by decide +kernel)), (mm_t2 (w := .selects RX6 yX6_atOnce yX6_atOnce) 169 (by decide +kernel) (by decide +kernel)), rfl⟩
set_option maxRecDepth 20000 in
theorem mc_52 : mm_cal 52 := ⟨(mm_t1 (w := .initialized RX6) 1 (by decide +kernel) (by decide +kernel)), (mm_t2 (w := .code yX6_soonest cX6_soonest 2 (some .int)) 196 (by decide +kernel) (by decide +kernel)), by decide +kernel, ⟨by decide +kernel, by decide +kernel, by decide +kernel⟩, Nat.le_of_ble_eq_true rfl, rfl⟩
set_option maxRecDepth 20000 in
theorem mi_52 : mm_inst 52 := ⟨(mm_t2 (w := .instanceMethod yX6_soonest) 194 (by decide +kernel) (by decide +kernel)), (mm_t2 (w := .selects RX6 yX6_soonest yX6_soonest) 195 (by decide +kernel) (by decide +kernel)), rfl⟩
set_option maxRecDepth 20000 in
theorem mc_53 : mm_cal 53 := ⟨(mm_t1 (w := .initialized RX6) 1 (by decide +kernel) (by decide +kernel)), (mm_t3 (w := .code yX6_alone cX6_alone 3 (some .int)) 1 (by decide +kernel) (by decide +kernel)), by decide +kernel, ⟨by decide +kernel, by decide +kernel, by decide +kernel⟩, Nat.le_of_ble_eq_true rfl, rfl⟩
set_option maxRecDepth 20000 in
theorem mi_53 : mm_inst 53 := ⟨(mm_t2 (w := .instanceMethod yX6_alone) 239 (by decide +kernel) (by decide +kernel)), (mm_t3 (w := .selects RX6 yX6_alone yX6_alone) 0 (by decide +kernel) (by decide +kernel)), rfl⟩
set_option maxRecDepth 20000 in
theorem mc_54 : mm_cal 54 := ⟨(mm_t1 (w := .initialized RX6) 1 (by decide +kernel) (by decide +kernel)), (mm_t3 (w := .code yX6_sunset cX6_sunset 2 (some .int)) 16 (by decide +kernel) (by decide +kernel)), by decide +kernel, ⟨by decide +kernel, by decide +kernel, by decide +kernel⟩, Nat.le_of_ble_eq_true rfl, rfl⟩
set_option maxRecDepth 20000 in
theorem mi_54 : mm_inst 54 := ⟨(mm_t3 (w := .instanceMethod yX6_sunset) 14 (by decide +kernel) (by decide +kernel)), (mm_t3 (w := .selects RX6 yX6_sunset yX6_sunset) 15 (by decide +kernel) (by decide +kernel)), rfl⟩
set_option maxRecDepth 20000 in
theorem mc_55 : mm_cal 55 := ⟨(mm_t1 (w := .initialized RX6) 1 (by decide +kernel) (by decide +kernel)), (mm_t3 (w := .code yX6_reed cX6_reed 3 (some .int)) 25 (by decide +kernel) (by decide +kernel)), by decide +kernel, ⟨by decide +kernel, by decide +kernel, by decide +kernel⟩, Nat.le_of_ble_eq_true rfl, rfl⟩
set_option maxRecDepth 20000 in
theorem mi_55 : mm_inst 55 := ⟨(mm_t3 (w := .instanceMethod yX6_reed) 23 (by decide +kernel) (by decide +kernel)), (mm_t3 (w := .selects RX6 yX6_reed yX6_reed) 24 (by decide +kernel) (by decide +kernel)), rfl⟩
set_option maxRecDepth 20000 in
theorem mc_56 : mm_cal 56 := ⟨(mm_t1 (w := .initialized RX6) 1 (by decide +kernel) (by decide +kernel)), (mm_t3 (w := .code yX6_pull cX6_pull 2 (some .int)) 29 (by decide +kernel) (by decide +kernel)), by decide +kernel, ⟨by decide +kernel, by decide +kernel, by decide +kernel⟩, Nat.le_of_ble_eq_true rfl, rfl⟩
set_option maxRecDepth 20000 in
theorem mi_56 : mm_inst 56 := ⟨(mm_t3 (w := .instanceMethod yX6_pull) 27 (by decide +kernel) (by decide +kernel)), (mm_t3 (w := .selects RX6 yX6_pull yX6_pull) 28 (by decide +kernel) (by decide +kernel)), rfl⟩
set_option maxRecDepth 20000 in
theorem mc_57 : mm_cal 57 := ⟨(mm_t1 (w := .initialized RX6) 1 (by decide +kernel) (by decide +kernel)), (mm_t3 (w := .code yX6_fits cX6_fits 6 (some .int)) 33 (by decide +kernel) (by decide +kernel)), by decide +kernel, ⟨by decide +kernel, by decide +kernel, by decide +kernel⟩, Nat.le_of_ble_eq_true rfl, rfl⟩
set_option maxRecDepth 20000 in
theorem mi_57 : mm_inst 57 := ⟨(mm_t3 (w := .instanceMethod yX6_fits) 31 (by decide +kernel) (by decide +kernel)), (mm_t3 (w := .selects RX6 yX6_fits yX6_fits) 32 (by decide +kernel) (by decide +kernel)), rfl⟩
set_option maxRecDepth 20000 in
theorem mc_58 : mm_cal 58 := ⟨(mm_t1 (w := .initialized RX6) 1 (by decide +kernel) (by decide +kernel)), (mm_t3 (w := .code yX6_dig cX6_dig 6 (some .int)) 46 (by decide +kernel) (by decide +kernel)), by decide +kernel, ⟨by decide +kernel, by decide +kernel, by decide +kernel⟩, Nat.le_of_ble_eq_true rfl, rfl⟩
set_option maxRecDepth 20000 in
theorem mi_58 : mm_inst 58 := ⟨(mm_t3 (w := .instanceMethod yX6_dig) 44 (by decide +kernel) (by decide +kernel)), (mm_t3 (w := .selects RX6 yX6_dig yX6_dig) 45 (by decide +kernel) (by decide +kernel)), rfl⟩
set_option maxRecDepth 20000 in
theorem mc_59 : mm_cal 59 := ⟨(mm_t1 (w := .initialized RX6) 1 (by decide +kernel) (by decide +kernel)), (mm_t3 (w := .code yX6_sheet cX6_sheet 4 (some .int)) 55 (by decide +kernel) (by decide +kernel)), by decide +kernel, ⟨by decide +kernel, by decide +kernel, by decide +kernel⟩, Nat.le_of_ble_eq_true rfl, rfl⟩
set_option maxRecDepth 20000 in
theorem mi_59 : mm_inst 59 := ⟨(mm_t3 (w := .instanceMethod yX6_sheet) 53 (by decide +kernel) (by decide +kernel)), (mm_t3 (w := .selects RX6 yX6_sheet yX6_sheet) 54 (by decide +kernel) (by decide +kernel)), rfl⟩
set_option maxRecDepth 20000 in
theorem mc_60 : mm_cal 60 := ⟨(mm_t1 (w := .initialized RX6) 1 (by decide +kernel) (by decide +kernel)), (mm_t3 (w := .code yX6_lose cX6_lose 3 (some .int)) 64 (by decide +kernel) (by decide +kernel)), by decide +kernel, ⟨by decide +kernel, by decide +kernel, by decide +kernel⟩, Nat.le_of_ble_eq_true rfl, rfl⟩
set_option maxRecDepth 20000 in
theorem mi_60 : mm_inst 60 := ⟨(mm_t3 (w := .instanceMethod yX6_lose) 62 (by decide +kernel) (by decide +kernel)), (mm_t3 (w := .selects RX6 yX6_lose yX6_lose) 63 (by decide +kernel) (by decide +kernel)), rfl⟩
set_option maxRecDepth 20000 in
theorem mc_61 : mm_cal 61 := ⟨(mm_t1 (w := .initialized RX6) 1 (by decide +kernel) (by decide +kernel)), (mm_t3 (w := .code yX6_put cX6_put 4 (some .int)) 68 (by decide +kernel) (by decide +kernel)), by decide +kernel, ⟨by decide +kernel, by decide +kernel, by decide +kernel⟩, Nat.le_of_ble_eq_true rfl, rfl⟩
set_option maxRecDepth 20000 in
theorem mi_61 : mm_inst 61 := ⟨(mm_t3 (w := .instanceMethod yX6_put) 66 (by decide +kernel) (by decide +kernel)), (mm_t3 (w := .selects RX6 yX6_put yX6_put) 67 (by decide +kernel) (by decide +kernel)), rfl⟩
set_option maxRecDepth 20000 in
theorem mc_62 : mm_cal 62 := ⟨(mm_t1 (w := .initialized RX6) 1 (by decide +kernel) (by decide +kernel)), (mm_t3 (w := .code yX6_cell cX6_cell 5 (some .long)) 76 (by decide +kernel) (by decide +kernel)), by decide +kernel, ⟨by decide +kernel, by decide +kernel, by decide +kernel⟩, Nat.le_of_ble_eq_true rfl, rfl⟩
set_option maxRecDepth 20000 in
theorem mi_62 : mm_inst 62 := ⟨(mm_t3 (w := .instanceMethod yX6_cell) 74 (by decide +kernel) (by decide +kernel)), (mm_t3 (w := .selects RX6 yX6_cell yX6_cell) 75 (by decide +kernel) (by decide +kernel)), rfl⟩
set_option maxRecDepth 20000 in
theorem mc_63 : mm_cal 63 := ⟨(mm_t1 (w := .initialized RX6) 1 (by decide +kernel) (by decide +kernel)), (mm_t3 (w := .code yX6_copy cX6_copy 8 (some .int)) 80 (by decide +kernel) (by decide +kernel)), by decide +kernel, ⟨by decide +kernel, by decide +kernel, by decide +kernel⟩, Nat.le_of_ble_eq_true rfl, rfl⟩
set_option maxRecDepth 20000 in
theorem mi_63 : mm_inst 63 := ⟨(mm_t3 (w := .instanceMethod yX6_copy) 78 (by decide +kernel) (by decide +kernel)), (mm_t3 (w := .selects RX6 yX6_copy yX6_copy) 79 (by decide +kernel) (by decide +kernel)), rfl⟩
set_option maxRecDepth 20000 in
theorem mc_64 : mm_cal 64 := ⟨(mm_t1 (w := .initialized RX6) 1 (by decide +kernel) (by decide +kernel)), (mm_t3 (w := .code yX6_tell cX6_tell 3 (some .int)) 87 (by decide +kernel) (by decide +kernel)), by decide +kernel, ⟨by decide +kernel, by decide +kernel, by decide +kernel⟩, Nat.le_of_ble_eq_true rfl, rfl⟩
set_option maxRecDepth 20000 in
theorem mi_64 : mm_inst 64 := ⟨(mm_t3 (w := .instanceMethod yX6_tell) 85 (by decide +kernel) (by decide +kernel)), (mm_t3 (w := .selects RX6 yX6_tell yX6_tell) 86 (by decide +kernel) (by decide +kernel)), rfl⟩
set_option maxRecDepth 20000 in
theorem mc_65 : mm_cal 65 := ⟨(mm_t1 (w := .initialized RX6) 1 (by decide +kernel) (by decide +kernel)), (mm_t3 (w := .code yX6_make cX6_make 2 (some .int)) 107 (by decide +kernel) (by decide +kernel)), by decide +kernel, ⟨by decide +kernel, by decide +kernel, by decide +kernel⟩, Nat.le_of_ble_eq_true rfl, rfl⟩
set_option maxRecDepth 20000 in
theorem mi_65 : mm_inst 65 := ⟨(mm_t3 (w := .instanceMethod yX6_make) 105 (by decide +kernel) (by decide +kernel)), (mm_t3 (w := .selects RX6 yX6_make yX6_make) 106 (by decide +kernel) (by decide +kernel)), rfl⟩
set_option maxRecDepth 20000 in
theorem mc_66 : mm_cal 66 := ⟨(mm_t1 (w := .initialized RX6) 1 (by decide +kernel) (by decide +kernel)), (mm_t3 (w := .code yX6_as cX6_as 3 (some .int)) 119 (by decide +kernel) (by decide +kernel)), by decide +kernel, ⟨by decide +kernel, by decide +kernel, by decide +kernel⟩, Nat.le_of_ble_eq_true rfl, rfl⟩
set_option maxRecDepth 20000 in
theorem mi_66 : mm_inst 66 := ⟨(mm_t3 (w := .instanceMethod yX6_as) 117 (by decide +kernel) (by decide +kernel)), (mm_t3 (w := .selects RX6 yX6_as yX6_as) 118 (by decide +kernel) (by decide +kernel)), rfl⟩
set_option maxRecDepth 20000 in
theorem mc_67 : mm_cal 67 := ⟨(mm_t1 (w := .initialized RX6) 1 (by decide +kernel) (by decide +kernel)), (mm_t3 (w := .code yX6_trace cX6_trace 1 (some .int)) 123 (by decide +kernel) (by decide +kernel)), by decide +kernel, ⟨by decide +kernel, by decide +kernel, by decide +kernel⟩, Nat.le_of_ble_eq_true rfl, rfl⟩
set_option maxRecDepth 20000 in
theorem mi_67 : mm_inst 67 := ⟨(mm_t3 (w := .instanceMethod yX6_trace) 121 (by decide +kernel) (by decide +kernel)), (mm_t3 (w := .selects RX6 yX6_trace yX6_trace) 122 (by decide +kernel) (by decide +kernel)), rfl⟩
set_option maxRecDepth 20000 in
theorem mc_68 : mm_cal 68 := ⟨(mm_t1 (w := .initialized RX6) 1 (by decide +kernel) (by decide +kernel)), (mm_t3 (w := .code yX6_fault cX6_fault 1 (some .int)) 127 (by decide +kernel) (by decide +kernel)), by decide +kernel, ⟨by decide +kernel, by decide +kernel, by decide +kernel⟩, Nat.le_of_ble_eq_true rfl, rfl⟩
set_option maxRecDepth 20000 in
theorem mi_68 : mm_inst 68 := ⟨(mm_t3 (w := .instanceMethod yX6_fault) 125 (by decide +kernel) (by decide +kernel)), (mm_t3 (w := .selects RX6 yX6_fault yX6_fault) 126 (by decide +kernel) (by decide +kernel)), rfl⟩
set_option maxRecDepth 20000 in
theorem mc_69 : mm_cal 69 := ⟨(mm_t1 (w := .initialized RX6) 1 (by decide +kernel) (by decide +kernel)), (mm_t3 (w := .code yX6_many cX6_many 2 (some .int)) 131 (by decide +kernel) (by decide +kernel)), by decide +kernel, ⟨by decide +kernel, by decide +kernel, by decide +kernel⟩, Nat.le_of_ble_eq_true rfl, rfl⟩
set_option maxRecDepth 20000 in
theorem mi_69 : mm_inst 69 := ⟨(mm_t3 (w := .instanceMethod yX6_many) 129 (by decide +kernel) (by decide +kernel)), (mm_t3 (w := .selects RX6 yX6_many yX6_many) 130 (by decide +kernel) (by decide +kernel)), rfl⟩
set_option maxRecDepth 20000 in
theorem mc_70 : mm_cal 70 := ⟨(mm_t1 (w := .initialized RX6) 1 (by decide +kernel) (by decide +kernel)), (mm_t1 (w := .code yX6_faulty cX6_faulty 2 (some .int)) 227 (by decide +kernel) (by decide +kernel)), by decide +kernel, ⟨by decide +kernel, by decide +kernel, by decide +kernel⟩, Nat.le_of_ble_eq_true rfl, rfl⟩
set_option maxRecDepth 20000 in
theorem mi_70 : mm_inst 70 := ⟨(mm_t1 (w := .instanceMethod yX6_faulty) 226 (by decide +kernel) (by decide +kernel)), (mm_t0 (w := .selects RX6 yX6_faulty yX6_faulty) 0 (by decide +kernel) (by decide +kernel)), rfl⟩
set_option maxRecDepth 20000 in
theorem mc_71 : mm_cal 71 := ⟨(mm_t1 (w := .initialized RX6) 1 (by decide +kernel) (by decide +kernel)), (mm_t1 (w := .code yX6_isSheet cX6_isSheet 1 (some .boolean)) 216 (by decide +kernel) (by decide +kernel)), by decide +kernel, ⟨by decide +kernel, by decide +kernel, by decide +kernel⟩, Nat.le_of_ble_eq_true rfl, rfl⟩
theorem mst_71 : mm_stat 71 := (mm_t1 (w := .static yX6_isSheet) 215 (by decide +kernel) (by decide +kernel))
set_option maxRecDepth 20000 in
theorem mc_72 : mm_cal 72 := ⟨(mm_t1 (w := .initialized RX6) 1 (by decide +kernel) (by decide +kernel)), (mm_t1 (w := .code yX6_isSort cX6_isSort 1 (some .boolean)) 219 (by decide +kernel) (by decide +kernel)), by decide +kernel, ⟨by decide +kernel, by decide +kernel, by decide +kernel⟩, Nat.le_of_ble_eq_true rfl, rfl⟩
theorem mst_72 : mm_stat 72 := (mm_t1 (w := .static yX6_isSort) 218 (by decide +kernel) (by decide +kernel))
set_option maxRecDepth 20000 in
theorem mc_73 : mm_cal 73 := ⟨(mm_t1 (w := .initialized RX6) 1 (by decide +kernel) (by decide +kernel)), (mm_t2 (w := .code yX6_isKind cX6_isKind 1 (some .boolean)) 59 (by decide +kernel) (by decide +kernel)), by decide +kernel, ⟨by decide +kernel, by decide +kernel, by decide +kernel⟩, Nat.le_of_ble_eq_true rfl, rfl⟩
theorem mst_73 : mm_stat 73 := (mm_t2 (w := .static yX6_isKind) 58 (by decide +kernel) (by decide +kernel))
set_option maxRecDepth 20000 in
theorem mc_74 : mm_cal 74 := ⟨(mm_t1 (w := .initialized RX6) 1 (by decide +kernel) (by decide +kernel)), (mm_t2 (w := .code yX6_isMinute cX6_isMinute 1 (some .boolean)) 62 (by decide +kernel) (by decide +kernel)), by decide +kernel, ⟨by decide +kernel, by decide +kernel, by decide +kernel⟩, Nat.le_of_ble_eq_true rfl, rfl⟩
theorem mst_74 : mm_stat 74 := (mm_t2 (w := .static yX6_isMinute) 61 (by decide +kernel) (by decide +kernel))
set_option maxRecDepth 20000 in
theorem mc_75 : mm_cal 75 := ⟨(mm_t1 (w := .initialized RX6) 1 (by decide +kernel) (by decide +kernel)), (mm_t2 (w := .code yX6_lowestBit cX6_lowestBit 2 (some .int)) 121 (by decide +kernel) (by decide +kernel)), by decide +kernel, ⟨by decide +kernel, by decide +kernel, by decide +kernel⟩, Nat.le_of_ble_eq_true rfl, rfl⟩
theorem mst_75 : mm_stat 75 := (mm_t2 (w := .static yX6_lowestBit) 120 (by decide +kernel) (by decide +kernel))
set_option maxRecDepth 20000 in
theorem mc_76 : mm_cal 76 := ⟨(mm_t1 (w := .initialized RX6) 1 (by decide +kernel) (by decide +kernel)), (mm_t3 (w := .code yX6_fitsInCell cX6_fitsInCell 6 (some .int)) 37 (by decide +kernel) (by decide +kernel)), by decide +kernel, ⟨by decide +kernel, by decide +kernel, by decide +kernel⟩, Nat.le_of_ble_eq_true rfl, rfl⟩
set_option maxRecDepth 20000 in
theorem mi_76 : mm_inst 76 := ⟨(mm_t3 (w := .instanceMethod yX6_fitsInCell) 36 (by decide +kernel) (by decide +kernel)), (mm_t0 (w := .selects RX6 yX6_fitsInCell yX6_fitsInCell) 17 (by decide +kernel) (by decide +kernel)), rfl⟩
set_option maxRecDepth 20000 in
theorem mc_77 : mm_cal 77 := ⟨(mm_t1 (w := .initialized RX6) 1 (by decide +kernel) (by decide +kernel)), (mm_t3 (w := .code yX6_firstFit cX6_firstFit 2 (some .int)) 41 (by decide +kernel) (by decide +kernel)), by decide +kernel, ⟨by decide +kernel, by decide +kernel, by decide +kernel⟩, Nat.le_of_ble_eq_true rfl, rfl⟩
set_option maxRecDepth 20000 in
theorem mi_77 : mm_inst 77 := ⟨(mm_t3 (w := .instanceMethod yX6_firstFit) 40 (by decide +kernel) (by decide +kernel)), (mm_t0 (w := .selects RX6 yX6_firstFit yX6_firstFit) 18 (by decide +kernel) (by decide +kernel)), rfl⟩
set_option maxRecDepth 20000 in
theorem mc_78 : mm_cal 78 := ⟨(mm_t1 (w := .initialized RX6) 1 (by decide +kernel) (by decide +kernel)), (mm_t3 (w := .code yX6_mostTogetherIfDug cX6_mostTogetherIfDug 5 (some .int)) 50 (by decide +kernel) (by decide +kernel)), by decide +kernel, ⟨by decide +kernel, by decide +kernel, by decide +kernel⟩, Nat.le_of_ble_eq_true rfl, rfl⟩
set_option maxRecDepth 20000 in
theorem mi_78 : mm_inst 78 := ⟨(mm_t3 (w := .instanceMethod yX6_mostTogetherIfDug) 49 (by decide +kernel) (by decide +kernel)), (mm_t0 (w := .selects RX6 yX6_mostTogetherIfDug yX6_mostTogetherIfDug) 19 (by decide +kernel) (by decide +kernel)), rfl⟩
set_option maxRecDepth 20000 in
theorem mc_79 : mm_cal 79 := ⟨(mm_t1 (w := .initialized RX6) 1 (by decide +kernel) (by decide +kernel)), (mm_t2 (w := .code yX6_mostTogether cX6_mostTogether 3 (some .int)) 174 (by decide +kernel) (by decide +kernel)), by decide +kernel, ⟨by decide +kernel, by decide +kernel, by decide +kernel⟩, Nat.le_of_ble_eq_true rfl, rfl⟩
set_option maxRecDepth 20000 in
theorem mi_79 : mm_inst 79 := ⟨(mm_t2 (w := .instanceMethod yX6_mostTogether) 173 (by decide +kernel) (by decide +kernel)), (mm_t0 (w := .selects RX6 yX6_mostTogether yX6_mostTogether) 6 (by decide +kernel) (by decide +kernel)), rfl⟩
set_option maxRecDepth 20000 in
theorem mc_80 : mm_cal 80 := ⟨(mm_t1 (w := .initialized RX6) 1 (by decide +kernel) (by decide +kernel)), (mm_t2 (w := .code yX6_findClashes cX6_findClashes 3 none) 178 (by decide +kernel) (by decide +kernel)), by decide +kernel, ⟨by decide +kernel, by decide +kernel, by decide +kernel⟩, Nat.le_of_ble_eq_true rfl, rfl⟩
set_option maxRecDepth 20000 in
theorem mi_80 : mm_inst 80 := ⟨(mm_t2 (w := .instanceMethod yX6_findClashes) 177 (by decide +kernel) (by decide +kernel)), (mm_t0 (w := .selects RX6 yX6_findClashes yX6_findClashes) 7 (by decide +kernel) (by decide +kernel)), rfl⟩
set_option maxRecDepth 20000 in
theorem mc_81 : mm_cal 81 := ⟨(mm_t1 (w := .initialized RX6) 1 (by decide +kernel) (by decide +kernel)), (mm_t2 (w := .code yX6_isPeaceful cX6_isPeaceful 3 (some .boolean)) 192 (by decide +kernel) (by decide +kernel)), by decide +kernel, ⟨by decide +kernel, by decide +kernel, by decide +kernel⟩, Nat.le_of_ble_eq_true rfl, rfl⟩
set_option maxRecDepth 20000 in
theorem mi_81 : mm_inst 81 := ⟨(mm_t2 (w := .instanceMethod yX6_isPeaceful) 191 (by decide +kernel) (by decide +kernel)), (mm_t0 (w := .selects RX6 yX6_isPeaceful yX6_isPeaceful) 8 (by decide +kernel) (by decide +kernel)), rfl⟩
set_option maxRecDepth 20000 in
theorem mc_82 : mm_cal 82 := ⟨(mm_t1 (w := .initialized RX6) 1 (by decide +kernel) (by decide +kernel)), (mm_t3 (w := .code yX6_leave cX6_leave 2 none) 95 (by decide +kernel) (by decide +kernel)), by decide +kernel, ⟨by decide +kernel, by decide +kernel, by decide +kernel⟩, Nat.le_of_ble_eq_true rfl, rfl⟩
set_option maxRecDepth 20000 in
theorem mi_82 : mm_inst 82 := ⟨(mm_t3 (w := .instanceMethod yX6_leave) 94 (by decide +kernel) (by decide +kernel)), (mm_t0 (w := .selects RX6 yX6_leave yX6_leave) 21 (by decide +kernel) (by decide +kernel)), rfl⟩
set_option maxRecDepth 20000 in
theorem mc_83 : mm_cal 83 := ⟨(mm_t1 (w := .initialized RX6) 1 (by decide +kernel) (by decide +kernel)), (mm_t3 (w := .code yX6_stoneTells cX6_stoneTells 2 (some .int)) 103 (by decide +kernel) (by decide +kernel)), by decide +kernel, ⟨by decide +kernel, by decide +kernel, by decide +kernel⟩, Nat.le_of_ble_eq_true rfl, rfl⟩
set_option maxRecDepth 20000 in
theorem mi_83 : mm_inst 83 := ⟨(mm_t3 (w := .instanceMethod yX6_stoneTells) 102 (by decide +kernel) (by decide +kernel)), (mm_t0 (w := .selects RX6 yX6_stoneTells yX6_stoneTells) 23 (by decide +kernel) (by decide +kernel)), rfl⟩
set_option maxRecDepth 20000 in
theorem mc_84 : mm_cal 84 := ⟨(mm_t1 (w := .initialized RX6) 1 (by decide +kernel) (by decide +kernel)), (mm_t3 (w := .code yX6_pebbleTells cX6_pebbleTells 2 (some .int)) 99 (by decide +kernel) (by decide +kernel)), by decide +kernel, ⟨by decide +kernel, by decide +kernel, by decide +kernel⟩, Nat.le_of_ble_eq_true rfl, rfl⟩
set_option maxRecDepth 20000 in
theorem mi_84 : mm_inst 84 := ⟨(mm_t3 (w := .instanceMethod yX6_pebbleTells) 98 (by decide +kernel) (by decide +kernel)), (mm_t0 (w := .selects RX6 yX6_pebbleTells yX6_pebbleTells) 22 (by decide +kernel) (by decide +kernel)), rfl⟩
set_option maxRecDepth 20000 in
theorem mc_85 : mm_cal 85 := ⟨(mm_t1 (w := .initialized RX6) 1 (by decide +kernel) (by decide +kernel)), (mm_t3 (w := .code yX6_grainTells cX6_grainTells 3 (some .int)) 91 (by decide +kernel) (by decide +kernel)), by decide +kernel, ⟨by decide +kernel, by decide +kernel, by decide +kernel⟩, Nat.le_of_ble_eq_true rfl, rfl⟩
set_option maxRecDepth 20000 in
theorem mi_85 : mm_inst 85 := ⟨(mm_t3 (w := .instanceMethod yX6_grainTells) 90 (by decide +kernel) (by decide +kernel)), (mm_t0 (w := .selects RX6 yX6_grainTells yX6_grainTells) 20 (by decide +kernel) (by decide +kernel)), rfl⟩
set_option maxRecDepth 20000 in
theorem mc_86 : mm_cal 86 := ⟨(mm_t1 (w := .initialized RX6) 1 (by decide +kernel) (by decide +kernel)), (mm_t3 (w := .code yX6_lentMakes cX6_lentMakes 2 (some .int)) 115 (by decide +kernel) (by decide +kernel)), by decide +kernel, ⟨by decide +kernel, by decide +kernel, by decide +kernel⟩, Nat.le_of_ble_eq_true rfl, rfl⟩
set_option maxRecDepth 20000 in
theorem mi_86 : mm_inst 86 := ⟨(mm_t3 (w := .instanceMethod yX6_lentMakes) 114 (by decide +kernel) (by decide +kernel)), (mm_t0 (w := .selects RX6 yX6_lentMakes yX6_lentMakes) 25 (by decide +kernel) (by decide +kernel)), rfl⟩
set_option maxRecDepth 20000 in
theorem mc_87 : mm_cal 87 := ⟨(mm_t1 (w := .initialized RX6) 1 (by decide +kernel) (by decide +kernel)), (mm_t3 (w := .code yX6_grainMakes cX6_grainMakes 1 (some .int)) 111 (by decide +kernel) (by decide +kernel)), by decide +kernel, ⟨by decide +kernel, by decide +kernel, by decide +kernel⟩, Nat.le_of_ble_eq_true rfl, rfl⟩
set_option maxRecDepth 20000 in
theorem mi_87 : mm_inst 87 := ⟨(mm_t3 (w := .instanceMethod yX6_grainMakes) 110 (by decide +kernel) (by decide +kernel)), (mm_t0 (w := .selects RX6 yX6_grainMakes yX6_grainMakes) 24 (by decide +kernel) (by decide +kernel)), rfl⟩
set_option maxRecDepth 20000 in
theorem mc_88 : mm_cal 88 := ⟨(mm_t1 (w := .initialized RX7) 8 (by decide +kernel) (by decide +kernel)), (mm_t4 (w := .code yX7_fails cX7_fails 2 (some .int)) 4 (by decide +kernel) (by decide +kernel)), by decide +kernel, ⟨by decide +kernel, by decide +kernel, by decide +kernel⟩, Nat.le_of_ble_eq_true rfl, rfl⟩
set_option maxRecDepth 20000 in
theorem mi_88 : mm_inst 88 := ⟨(mm_t4 (w := .instanceMethod yX7_fails) 3 (by decide +kernel) (by decide +kernel)), (mm_t0 (w := .selects RX7 yX7_fails yX7_fails) 27 (by decide +kernel) (by decide +kernel)), rfl⟩
set_option maxRecDepth 20000 in
theorem mc_89 : mm_cal 89 := ⟨(mm_t1 (w := .initialized RX7) 8 (by decide +kernel) (by decide +kernel)), (mm_t4 (w := .code yX7_lost cX7_lost 2 (some .long)) 211 (by decide +kernel) (by decide +kernel)), by decide +kernel, ⟨by decide +kernel, by decide +kernel, by decide +kernel⟩, Nat.le_of_ble_eq_true rfl, rfl⟩
set_option maxRecDepth 20000 in
theorem mi_89 : mm_inst 89 := ⟨(mm_t4 (w := .instanceMethod yX7_lost) 210 (by decide +kernel) (by decide +kernel)), (mm_t0 (w := .selects RX7 yX7_lost yX7_lost) 53 (by decide +kernel) (by decide +kernel)), rfl⟩
set_option maxRecDepth 20000 in
theorem mc_90 : mm_cal 90 := ⟨(mm_t1 (w := .initialized RX7) 8 (by decide +kernel) (by decide +kernel)), (mm_t3 (w := .code yX7_within cX7_within 3 (some .boolean)) 233 (by decide +kernel) (by decide +kernel)), by decide +kernel, ⟨by decide +kernel, by decide +kernel, by decide +kernel⟩, Nat.le_of_ble_eq_true rfl, rfl⟩
theorem mst_90 : mm_stat 90 := (mm_t3 (w := .static yX7_within) 232 (by decide +kernel) (by decide +kernel))
set_option maxRecDepth 20000 in
theorem mc_91 : mm_cal 91 := ⟨(mm_t1 (w := .initialized RX7) 8 (by decide +kernel) (by decide +kernel)), (mm_t3 (w := .code yX7_isSheet cX7_isSheet 1 (some .boolean)) 230 (by decide +kernel) (by decide +kernel)), by decide +kernel, ⟨by decide +kernel, by decide +kernel, by decide +kernel⟩, Nat.le_of_ble_eq_true rfl, rfl⟩
theorem mst_91 : mm_stat 91 := (mm_t3 (w := .static yX7_isSheet) 229 (by decide +kernel) (by decide +kernel))
set_option maxRecDepth 20000 in
theorem mc_92 : mm_cal 92 := ⟨(mm_t1 (w := .initialized RX7) 8 (by decide +kernel) (by decide +kernel)), (mm_t3 (w := .code yX7_isSort cX7_isSort 1 (some .boolean)) 236 (by decide +kernel) (by decide +kernel)), by decide +kernel, ⟨by decide +kernel, by decide +kernel, by decide +kernel⟩, Nat.le_of_ble_eq_true rfl, rfl⟩
theorem mst_92 : mm_stat 92 := (mm_t3 (w := .static yX7_isSort) 235 (by decide +kernel) (by decide +kernel))
set_option maxRecDepth 20000 in
theorem mc_93 : mm_cal 93 := ⟨(mm_t1 (w := .initialized RX7) 8 (by decide +kernel) (by decide +kernel)), (mm_t4 (w := .code yX7_against cX7_against 5 (some .int)) 0 (by decide +kernel) (by decide +kernel)), by decide +kernel, ⟨by decide +kernel, by decide +kernel, by decide +kernel⟩, Nat.le_of_ble_eq_true rfl, rfl⟩
set_option maxRecDepth 20000 in
theorem mi_93 : mm_inst 93 := ⟨(mm_t3 (w := .instanceMethod yX7_against) 239 (by decide +kernel) (by decide +kernel)), (mm_t0 (w := .selects RX7 yX7_against yX7_against) 26 (by decide +kernel) (by decide +kernel)), rfl⟩
set_option maxRecDepth 20000 in
theorem mc_94 : mm_cal 94 := ⟨(mm_t1 (w := .initialized RX7) 8 (by decide +kernel) (by decide +kernel)), (mm_t4 (w := .code yX7_all cX7_all 1 (some .int)) 16 (by decide +kernel) (by decide +kernel)), by decide +kernel, ⟨by decide +kernel, by decide +kernel, by decide +kernel⟩, Nat.le_of_ble_eq_true rfl, rfl⟩
set_option maxRecDepth 20000 in
theorem mi_94 : mm_inst 94 := ⟨(mm_t4 (w := .instanceMethod yX7_all) 15 (by decide +kernel) (by decide +kernel)), (mm_t0 (w := .selects RX7 yX7_all yX7_all) 30 (by decide +kernel) (by decide +kernel)), rfl⟩
set_option maxRecDepth 20000 in
theorem mc_95 : mm_cal 95 := ⟨(mm_t1 (w := .initialized RX7) 8 (by decide +kernel) (by decide +kernel)), (mm_t4 (w := .code yX7_isCell cX7_isCell 2 (some .boolean)) 40 (by decide +kernel) (by decide +kernel)), by decide +kernel, ⟨by decide +kernel, by decide +kernel, by decide +kernel⟩, Nat.le_of_ble_eq_true rfl, rfl⟩
set_option maxRecDepth 20000 in
theorem mi_95 : mm_inst 95 := ⟨(mm_t4 (w := .instanceMethod yX7_isCell) 39 (by decide +kernel) (by decide +kernel)), (mm_t0 (w := .selects RX7 yX7_isCell yX7_isCell) 35 (by decide +kernel) (by decide +kernel)), rfl⟩
set_option maxRecDepth 20000 in
theorem mc_96 : mm_cal 96 := ⟨(mm_t1 (w := .initialized RX7) 8 (by decide +kernel) (by decide +kernel)), (mm_t4 (w := .code yX7_digit cX7_digit 3 (some .int)) 12 (by decide +kernel) (by decide +kernel)), by decide +kernel, ⟨by decide +kernel, by decide +kernel, by decide +kernel⟩, Nat.le_of_ble_eq_true rfl, rfl⟩
set_option maxRecDepth 20000 in
theorem mi_96 : mm_inst 96 := ⟨(mm_t4 (w := .instanceMethod yX7_digit) 11 (by decide +kernel) (by decide +kernel)), (mm_t0 (w := .selects RX7 yX7_digit yX7_digit) 29 (by decide +kernel) (by decide +kernel)), rfl⟩
set_option maxRecDepth 20000 in
theorem mc_97 : mm_cal 97 := ⟨(mm_t1 (w := .initialized RX7) 8 (by decide +kernel) (by decide +kernel)), (mm_t3 (w := .code yX7_pond cX7_pond 8 (some .int)) 227 (by decide +kernel) (by decide +kernel)), by decide +kernel, ⟨by decide +kernel, by decide +kernel, by decide +kernel⟩, Nat.le_of_ble_eq_true rfl, rfl⟩
set_option maxRecDepth 20000 in
theorem mi_97 : mm_inst 97 := ⟨(mm_t3 (w := .instanceMethod yX7_pond) 225 (by decide +kernel) (by decide +kernel)), (mm_t3 (w := .selects RX7 yX7_pond yX7_pond) 226 (by decide +kernel) (by decide +kernel)), rfl⟩
set_option maxRecDepth 20000 in
theorem mc_98 : mm_cal 98 := ⟨(mm_t1 (w := .initialized RX7) 8 (by decide +kernel) (by decide +kernel)), (mm_t4 (w := .code yX7_readPond cX7_readPond 4 (some .boolean)) 8 (by decide +kernel) (by decide +kernel)), by decide +kernel, ⟨by decide +kernel, by decide +kernel, by decide +kernel⟩, Nat.le_of_ble_eq_true rfl, rfl⟩
set_option maxRecDepth 20000 in
theorem mi_98 : mm_inst 98 := ⟨(mm_t4 (w := .instanceMethod yX7_readPond) 7 (by decide +kernel) (by decide +kernel)), (mm_t0 (w := .selects RX7 yX7_readPond yX7_readPond) 28 (by decide +kernel) (by decide +kernel)), rfl⟩
set_option maxRecDepth 20000 in
theorem mc_99 : mm_cal 99 := ⟨(mm_t1 (w := .initialized RX7) 8 (by decide +kernel) (by decide +kernel)), (mm_t4 (w := .code yX7_beside cX7_beside 6 (some .int)) 32 (by decide +kernel) (by decide +kernel)), by decide +kernel, ⟨by decide +kernel, by decide +kernel, by decide +kernel⟩, Nat.le_of_ble_eq_true rfl, rfl⟩
set_option maxRecDepth 20000 in
theorem mi_99 : mm_inst 99 := ⟨(mm_t4 (w := .instanceMethod yX7_beside) 31 (by decide +kernel) (by decide +kernel)), (mm_t0 (w := .selects RX7 yX7_beside yX7_beside) 34 (by decide +kernel) (by decide +kernel)), rfl⟩
set_option maxRecDepth 20000 in
theorem mc_100 : mm_cal 100 := ⟨(mm_t1 (w := .initialized RX7) 8 (by decide +kernel) (by decide +kernel)), (mm_t4 (w := .code yX7_way cX7_way 3 (some .int)) 28 (by decide +kernel) (by decide +kernel)), by decide +kernel, ⟨by decide +kernel, by decide +kernel, by decide +kernel⟩, Nat.le_of_ble_eq_true rfl, rfl⟩
set_option maxRecDepth 20000 in
theorem mi_100 : mm_inst 100 := ⟨(mm_t4 (w := .instanceMethod yX7_way) 27 (by decide +kernel) (by decide +kernel)), (mm_t0 (w := .selects RX7 yX7_way yX7_way) 33 (by decide +kernel) (by decide +kernel)), rfl⟩
set_option maxRecDepth 20000 in
theorem mc_101 : mm_cal 101 := ⟨(mm_t1 (w := .initialized RX7) 8 (by decide +kernel) (by decide +kernel)), (mm_t4 (w := .code yX7_layWays cX7_layWays 3 none) 20 (by decide +kernel) (by decide +kernel)), by decide +kernel, ⟨by decide +kernel, by decide +kernel, by decide +kernel⟩, Nat.le_of_ble_eq_true rfl, rfl⟩
set_option maxRecDepth 20000 in
theorem mi_101 : mm_inst 101 := ⟨(mm_t4 (w := .instanceMethod yX7_layWays) 19 (by decide +kernel) (by decide +kernel)), (mm_t0 (w := .selects RX7 yX7_layWays yX7_layWays) 31 (by decide +kernel) (by decide +kernel)), rfl⟩
set_option maxRecDepth 20000 in
theorem mc_102 : mm_cal 102 := ⟨(mm_t1 (w := .initialized RX7) 8 (by decide +kernel) (by decide +kernel)), (mm_t4 (w := .code yX7_goOn cX7_goOn 6 none) 24 (by decide +kernel) (by decide +kernel)), by decide +kernel, ⟨by decide +kernel, by decide +kernel, by decide +kernel⟩, Nat.le_of_ble_eq_true rfl, rfl⟩
set_option maxRecDepth 20000 in
theorem mi_102 : mm_inst 102 := ⟨(mm_t4 (w := .instanceMethod yX7_goOn) 23 (by decide +kernel) (by decide +kernel)), (mm_t0 (w := .selects RX7 yX7_goOn yX7_goOn) 32 (by decide +kernel) (by decide +kernel)), rfl⟩
set_option maxRecDepth 20000 in
theorem mc_103 : mm_cal 103 := ⟨(mm_t1 (w := .initialized RX7) 8 (by decide +kernel) (by decide +kernel)), (mm_t4 (w := .code yX7_water cX7_water 2 (some .int)) 36 (by decide +kernel) (by decide +kernel)), by decide +kernel, ⟨by decide +kernel, by decide +kernel, by decide +kernel⟩, Nat.le_of_ble_eq_true rfl, rfl⟩
set_option maxRecDepth 20000 in
theorem mi_103 : mm_inst 103 := ⟨(mm_t4 (w := .instanceMethod yX7_water) 34 (by decide +kernel) (by decide +kernel)), (mm_t4 (w := .selects RX7 yX7_water yX7_water) 35 (by decide +kernel) (by decide +kernel)), rfl⟩
set_option maxRecDepth 20000 in
theorem mc_104 : mm_cal 104 := ⟨(mm_t1 (w := .initialized RX7) 8 (by decide +kernel) (by decide +kernel)), (mm_t4 (w := .code yX7_far cX7_far 3 (some .int)) 44 (by decide +kernel) (by decide +kernel)), by decide +kernel, ⟨by decide +kernel, by decide +kernel, by decide +kernel⟩, Nat.le_of_ble_eq_true rfl, rfl⟩
set_option maxRecDepth 20000 in
theorem mi_104 : mm_inst 104 := ⟨(mm_t4 (w := .instanceMethod yX7_far) 42 (by decide +kernel) (by decide +kernel)), (mm_t4 (w := .selects RX7 yX7_far yX7_far) 43 (by decide +kernel) (by decide +kernel)), rfl⟩
set_option maxRecDepth 20000 in
theorem mc_105 : mm_cal 105 := ⟨(mm_t1 (w := .initialized RX7) 8 (by decide +kernel) (by decide +kernel)), (mm_t4 (w := .code yX7_reach cX7_reach 1 (some .int)) 63 (by decide +kernel) (by decide +kernel)), by decide +kernel, ⟨by decide +kernel, by decide +kernel, by decide +kernel⟩, Nat.le_of_ble_eq_true rfl, rfl⟩
theorem mst_105 : mm_stat 105 := (mm_t4 (w := .static yX7_reach) 62 (by decide +kernel) (by decide +kernel))
set_option maxRecDepth 20000 in
theorem mc_106 : mm_cal 106 := ⟨(mm_t1 (w := .initialized RX7) 8 (by decide +kernel) (by decide +kernel)), (mm_t4 (w := .code yX7_comes cX7_comes 5 (some .boolean)) 76 (by decide +kernel) (by decide +kernel)), by decide +kernel, ⟨by decide +kernel, by decide +kernel, by decide +kernel⟩, Nat.le_of_ble_eq_true rfl, rfl⟩
set_option maxRecDepth 20000 in
theorem mi_106 : mm_inst 106 := ⟨(mm_t4 (w := .instanceMethod yX7_comes) 75 (by decide +kernel) (by decide +kernel)), (mm_t0 (w := .selects RX7 yX7_comes yX7_comes) 38 (by decide +kernel) (by decide +kernel)), rfl⟩
set_option maxRecDepth 20000 in
theorem mc_107 : mm_cal 107 := ⟨(mm_t1 (w := .initialized RX7) 8 (by decide +kernel) (by decide +kernel)), (mm_t4 (w := .code yX7_isStone cX7_isStone 2 (some .boolean)) 56 (by decide +kernel) (by decide +kernel)), by decide +kernel, ⟨by decide +kernel, by decide +kernel, by decide +kernel⟩, Nat.le_of_ble_eq_true rfl, rfl⟩
set_option maxRecDepth 20000 in
theorem mi_107 : mm_inst 107 := ⟨(mm_t4 (w := .instanceMethod yX7_isStone) 55 (by decide +kernel) (by decide +kernel)), (mm_t0 (w := .selects RX7 yX7_isStone yX7_isStone) 36 (by decide +kernel) (by decide +kernel)), rfl⟩
set_option maxRecDepth 20000 in
theorem mc_108 : mm_cal 108 := ⟨(mm_t1 (w := .initialized RX7) 8 (by decide +kernel) (by decide +kernel)), (mm_t4 (w := .code yX7_stone cX7_stone 4 (some .int)) 48 (by decide +kernel) (by decide +kernel)), by decide +kernel, ⟨by decide +kernel, by decide +kernel, by decide +kernel⟩, Nat.le_of_ble_eq_true rfl, rfl⟩
set_option maxRecDepth 20000 in
theorem mi_108 : mm_inst 108 := ⟨(mm_t4 (w := .instanceMethod yX7_stone) 46 (by decide +kernel) (by decide +kernel)), (mm_t4 (w := .selects RX7 yX7_stone yX7_stone) 47 (by decide +kernel) (by decide +kernel)), rfl⟩
set_option maxRecDepth 20000 in
theorem mc_109 : mm_cal 109 := ⟨(mm_t1 (w := .initialized RX7) 8 (by decide +kernel) (by decide +kernel)), (mm_t4 (w := .code yX7_overAt cX7_overAt 5 (some .int)) 60 (by decide +kernel) (by decide +kernel)), by decide +kernel, ⟨by decide +kernel, by decide +kernel, by decide +kernel⟩, Nat.le_of_ble_eq_true rfl, rfl⟩
set_option maxRecDepth 20000 in
theorem mi_109 : mm_inst 109 := ⟨(mm_t4 (w := .instanceMethod yX7_overAt) 59 (by decide +kernel) (by decide +kernel)), (mm_t0 (w := .selects RX7 yX7_overAt yX7_overAt) 37 (by decide +kernel) (by decide +kernel)), rfl⟩
set_option maxRecDepth 20000 in
theorem mc_110 : mm_cal 110 := ⟨(mm_t1 (w := .initialized RX7) 8 (by decide +kernel) (by decide +kernel)), (mm_t4 (w := .code yX7_ofStone cX7_ofStone 3 (some .int)) 52 (by decide +kernel) (by decide +kernel)), by decide +kernel, ⟨by decide +kernel, by decide +kernel, by decide +kernel⟩, Nat.le_of_ble_eq_true rfl, rfl⟩
set_option maxRecDepth 20000 in
theorem mi_110 : mm_inst 110 := ⟨(mm_t4 (w := .instanceMethod yX7_ofStone) 50 (by decide +kernel) (by decide +kernel)), (mm_t4 (w := .selects RX7 yX7_ofStone yX7_ofStone) 51 (by decide +kernel) (by decide +kernel)), rfl⟩
set_option maxRecDepth 20000 in
theorem mc_111 : mm_cal 111 := ⟨(mm_t1 (w := .initialized RX7) 8 (by decide +kernel) (by decide +kernel)), (mm_t4 (w := .code yX7_back cX7_back 2 (some .int)) 67 (by decide +kernel) (by decide +kernel)), by decide +kernel, ⟨by decide +kernel, by decide +kernel, by decide +kernel⟩, Nat.le_of_ble_eq_true rfl, rfl⟩
set_option maxRecDepth 20000 in
theorem mi_111 : mm_inst 111 := ⟨(mm_t4 (w := .instanceMethod yX7_back) 65 (by decide +kernel) (by decide +kernel)), (mm_t4 (w := .selects RX7 yX7_back yX7_back) 66 (by decide +kernel) (by decide +kernel)), rfl⟩
set_option maxRecDepth 20000 in
theorem mc_112 : mm_cal 112 := ⟨(mm_t1 (w := .initialized RX7) 8 (by decide +kernel) (by decide +kernel)), (mm_t4 (w := .code yX7_ring cX7_ring 6 (some .long)) 71 (by decide +kernel) (by decide +kernel)), by decide +kernel, ⟨by decide +kernel, by decide +kernel, by decide +kernel⟩, Nat.le_of_ble_eq_true rfl, rfl⟩
set_option maxRecDepth 20000 in
theorem mi_112 : mm_inst 112 := ⟨(mm_t4 (w := .instanceMethod yX7_ring) 69 (by decide +kernel) (by decide +kernel)), (mm_t4 (w := .selects RX7 yX7_ring yX7_ring) 70 (by decide +kernel) (by decide +kernel)), rfl⟩
set_option maxRecDepth 20000 in
theorem mc_113 : mm_cal 113 := ⟨(mm_t1 (w := .initialized RX7) 8 (by decide +kernel) (by decide +kernel)), (mm_t4 (w := .code yX7_offer cX7_offer 6 none) 92 (by decide +kernel) (by decide +kernel)), by decide +kernel, ⟨by decide +kernel, by decide +kernel, by decide +kernel⟩, Nat.le_of_ble_eq_true rfl, rfl⟩
set_option maxRecDepth 20000 in
theorem mi_113 : mm_inst 113 := ⟨(mm_t4 (w := .instanceMethod yX7_offer) 91 (by decide +kernel) (by decide +kernel)), (mm_t0 (w := .selects RX7 yX7_offer yX7_offer) 41 (by decide +kernel) (by decide +kernel)), rfl⟩
set_option maxRecDepth 20000 in
theorem mc_114 : mm_cal 114 := ⟨(mm_t1 (w := .initialized RX7) 8 (by decide +kernel) (by decide +kernel)), (mm_t4 (w := .code yX7_findMeet cX7_findMeet 8 none) 84 (by decide +kernel) (by decide +kernel)), by decide +kernel, ⟨by decide +kernel, by decide +kernel, by decide +kernel⟩, Nat.le_of_ble_eq_true rfl, rfl⟩
set_option maxRecDepth 20000 in
theorem mi_114 : mm_inst 114 := ⟨(mm_t4 (w := .instanceMethod yX7_findMeet) 83 (by decide +kernel) (by decide +kernel)), (mm_t0 (w := .selects RX7 yX7_findMeet yX7_findMeet) 39 (by decide +kernel) (by decide +kernel)), rfl⟩
set_option maxRecDepth 20000 in
theorem mc_115 : mm_cal 115 := ⟨(mm_t1 (w := .initialized RX7) 8 (by decide +kernel) (by decide +kernel)), (mm_t4 (w := .code yX7_isThere cX7_isThere 4 (some .boolean)) 88 (by decide +kernel) (by decide +kernel)), by decide +kernel, ⟨by decide +kernel, by decide +kernel, by decide +kernel⟩, Nat.le_of_ble_eq_true rfl, rfl⟩
set_option maxRecDepth 20000 in
theorem mi_115 : mm_inst 115 := ⟨(mm_t4 (w := .instanceMethod yX7_isThere) 87 (by decide +kernel) (by decide +kernel)), (mm_t0 (w := .selects RX7 yX7_isThere yX7_isThere) 40 (by decide +kernel) (by decide +kernel)), rfl⟩
set_option maxRecDepth 20000 in
theorem mc_116 : mm_cal 116 := ⟨(mm_t1 (w := .initialized RX7) 8 (by decide +kernel) (by decide +kernel)), (mm_t4 (w := .code yX7_meet cX7_meet 4 (some .int)) 80 (by decide +kernel) (by decide +kernel)), by decide +kernel, ⟨by decide +kernel, by decide +kernel, by decide +kernel⟩, Nat.le_of_ble_eq_true rfl, rfl⟩
set_option maxRecDepth 20000 in
theorem mi_116 : mm_inst 116 := ⟨(mm_t4 (w := .instanceMethod yX7_meet) 78 (by decide +kernel) (by decide +kernel)), (mm_t4 (w := .selects RX7 yX7_meet yX7_meet) 79 (by decide +kernel) (by decide +kernel)), rfl⟩
set_option maxRecDepth 20000 in
theorem mc_117 : mm_cal 117 := ⟨(mm_t1 (w := .initialized RX7) 8 (by decide +kernel) (by decide +kernel)), (mm_t4 (w := .code yX7_first cX7_first 7 (some .int)) 96 (by decide +kernel) (by decide +kernel)), by decide +kernel, ⟨by decide +kernel, by decide +kernel, by decide +kernel⟩, Nat.le_of_ble_eq_true rfl, rfl⟩
set_option maxRecDepth 20000 in
theorem mi_117 : mm_inst 117 := ⟨(mm_t4 (w := .instanceMethod yX7_first) 94 (by decide +kernel) (by decide +kernel)), (mm_t4 (w := .selects RX7 yX7_first yX7_first) 95 (by decide +kernel) (by decide +kernel)), rfl⟩
set_option maxRecDepth 20000 in
theorem mc_118 : mm_cal 118 := ⟨(mm_t1 (w := .initialized RX7) 8 (by decide +kernel) (by decide +kernel)), (mm_t4 (w := .code yX7_isWish cX7_isWish 2 (some .boolean)) 108 (by decide +kernel) (by decide +kernel)), by decide +kernel, ⟨by decide +kernel, by decide +kernel, by decide +kernel⟩, Nat.le_of_ble_eq_true rfl, rfl⟩
set_option maxRecDepth 20000 in
theorem mi_118 : mm_inst 118 := ⟨(mm_t4 (w := .instanceMethod yX7_isWish) 107 (by decide +kernel) (by decide +kernel)), (mm_t0 (w := .selects RX7 yX7_isWish yX7_isWish) 42 (by decide +kernel) (by decide +kernel)), rfl⟩
set_option maxRecDepth 20000 in
theorem mc_119 : mm_cal 119 := ⟨(mm_t1 (w := .initialized RX7) 8 (by decide +kernel) (by decide +kernel)), (mm_t4 (w := .code yX7_wish cX7_wish 3 (some .int)) 100 (by decide +kernel) (by decide +kernel)), by decide +kernel, ⟨by decide +kernel, by decide +kernel, by decide +kernel⟩, Nat.le_of_ble_eq_true rfl, rfl⟩
set_option maxRecDepth 20000 in
theorem mi_119 : mm_inst 119 := ⟨(mm_t4 (w := .instanceMethod yX7_wish) 98 (by decide +kernel) (by decide +kernel)), (mm_t4 (w := .selects RX7 yX7_wish yX7_wish) 99 (by decide +kernel) (by decide +kernel)), rfl⟩
set_option maxRecDepth 20000 in
theorem mc_120 : mm_cal 120 := ⟨(mm_t1 (w := .initialized RX7) 8 (by decide +kernel) (by decide +kernel)), (mm_t4 (w := .code yX7_ofWish cX7_ofWish 3 (some .int)) 104 (by decide +kernel) (by decide +kernel)), by decide +kernel, ⟨by decide +kernel, by decide +kernel, by decide +kernel⟩, Nat.le_of_ble_eq_true rfl, rfl⟩
set_option maxRecDepth 20000 in
theorem mi_120 : mm_inst 120 := ⟨(mm_t4 (w := .instanceMethod yX7_ofWish) 102 (by decide +kernel) (by decide +kernel)), (mm_t4 (w := .selects RX7 yX7_ofWish yX7_ofWish) 103 (by decide +kernel) (by decide +kernel)), rfl⟩
set_option maxRecDepth 20000 in
theorem mc_121 : mm_cal 121 := ⟨(mm_t1 (w := .initialized RX7) 8 (by decide +kernel) (by decide +kernel)), (mm_t4 (w := .code yX7_drop cX7_drop 2 (some .int)) 112 (by decide +kernel) (by decide +kernel)), by decide +kernel, ⟨by decide +kernel, by decide +kernel, by decide +kernel⟩, Nat.le_of_ble_eq_true rfl, rfl⟩
set_option maxRecDepth 20000 in
theorem mi_121 : mm_inst 121 := ⟨(mm_t4 (w := .instanceMethod yX7_drop) 110 (by decide +kernel) (by decide +kernel)), (mm_t4 (w := .selects RX7 yX7_drop yX7_drop) 111 (by decide +kernel) (by decide +kernel)), rfl⟩
set_option maxRecDepth 20000 in
theorem mc_122 : mm_cal 122 := ⟨(mm_t1 (w := .initialized RX7) 8 (by decide +kernel) (by decide +kernel)), (mm_t4 (w := .code yX7_isWithin cX7_isWithin 4 (some .boolean)) 128 (by decide +kernel) (by decide +kernel)), by decide +kernel, ⟨by decide +kernel, by decide +kernel, by decide +kernel⟩, Nat.le_of_ble_eq_true rfl, rfl⟩
set_option maxRecDepth 20000 in
theorem mi_122 : mm_inst 122 := ⟨(mm_t4 (w := .instanceMethod yX7_isWithin) 127 (by decide +kernel) (by decide +kernel)), (mm_t0 (w := .selects RX7 yX7_isWithin yX7_isWithin) 45 (by decide +kernel) (by decide +kernel)), rfl⟩
set_option maxRecDepth 20000 in
theorem mc_123 : mm_cal 123 := ⟨(mm_t1 (w := .initialized RX7) 8 (by decide +kernel) (by decide +kernel)), (mm_t4 (w := .code yX7_meetBy cX7_meetBy 4 (some .boolean)) 132 (by decide +kernel) (by decide +kernel)), by decide +kernel, ⟨by decide +kernel, by decide +kernel, by decide +kernel⟩, Nat.le_of_ble_eq_true rfl, rfl⟩
set_option maxRecDepth 20000 in
theorem mi_123 : mm_inst 123 := ⟨(mm_t4 (w := .instanceMethod yX7_meetBy) 131 (by decide +kernel) (by decide +kernel)), (mm_t0 (w := .selects RX7 yX7_meetBy yX7_meetBy) 46 (by decide +kernel) (by decide +kernel)), rfl⟩
set_option maxRecDepth 20000 in
theorem mc_124 : mm_cal 124 := ⟨(mm_t1 (w := .initialized RX7) 8 (by decide +kernel) (by decide +kernel)), (mm_t4 (w := .code yX7_layMeets cX7_layMeets 4 none) 120 (by decide +kernel) (by decide +kernel)), by decide +kernel, ⟨by decide +kernel, by decide +kernel, by decide +kernel⟩, Nat.le_of_ble_eq_true rfl, rfl⟩
set_option maxRecDepth 20000 in
theorem mi_124 : mm_inst 124 := ⟨(mm_t4 (w := .instanceMethod yX7_layMeets) 119 (by decide +kernel) (by decide +kernel)), (mm_t0 (w := .selects RX7 yX7_layMeets yX7_layMeets) 43 (by decide +kernel) (by decide +kernel)), rfl⟩
set_option maxRecDepth 20000 in
theorem mc_125 : mm_cal 125 := ⟨(mm_t1 (w := .initialized RX7) 8 (by decide +kernel) (by decide +kernel)), (mm_t4 (w := .code yX7_layMeetsAt cX7_layMeetsAt 9 none) 124 (by decide +kernel) (by decide +kernel)), by decide +kernel, ⟨by decide +kernel, by decide +kernel, by decide +kernel⟩, Nat.le_of_ble_eq_true rfl, rfl⟩
set_option maxRecDepth 20000 in
theorem mi_125 : mm_inst 125 := ⟨(mm_t4 (w := .instanceMethod yX7_layMeetsAt) 123 (by decide +kernel) (by decide +kernel)), (mm_t0 (w := .selects RX7 yX7_layMeetsAt yX7_layMeetsAt) 44 (by decide +kernel) (by decide +kernel)), rfl⟩
set_option maxRecDepth 20000 in
theorem mc_126 : mm_cal 126 := ⟨(mm_t1 (w := .initialized RX7) 8 (by decide +kernel) (by decide +kernel)), (mm_t4 (w := .code yX7_apart cX7_apart 4 (some .int)) 116 (by decide +kernel) (by decide +kernel)), by decide +kernel, ⟨by decide +kernel, by decide +kernel, by decide +kernel⟩, Nat.le_of_ble_eq_true rfl, rfl⟩
set_option maxRecDepth 20000 in
theorem mi_126 : mm_inst 126 := ⟨(mm_t4 (w := .instanceMethod yX7_apart) 114 (by decide +kernel) (by decide +kernel)), (mm_t4 (w := .selects RX7 yX7_apart yX7_apart) 115 (by decide +kernel) (by decide +kernel)), rfl⟩
set_option maxRecDepth 20000 in
theorem mc_127 : mm_cal 127 := ⟨(mm_t1 (w := .initialized RX7) 8 (by decide +kernel) (by decide +kernel)), (mm_t4 (w := .code yX7_size cX7_size 3 (some .int)) 143 (by decide +kernel) (by decide +kernel)), by decide +kernel, ⟨by decide +kernel, by decide +kernel, by decide +kernel⟩, Nat.le_of_ble_eq_true rfl, rfl⟩
theorem mst_127 : mm_stat 127 := (mm_t4 (w := .static yX7_size) 142 (by decide +kernel) (by decide +kernel))
set_option maxRecDepth 20000 in
theorem mc_128 : mm_cal 128 := ⟨(mm_t1 (w := .initialized RX7) 8 (by decide +kernel) (by decide +kernel)), (mm_t4 (w := .code yX7_mayAtOnce cX7_mayAtOnce 4 (some .boolean)) 147 (by decide +kernel) (by decide +kernel)), by decide +kernel, ⟨by decide +kernel, by decide +kernel, by decide +kernel⟩, Nat.le_of_ble_eq_true rfl, rfl⟩
set_option maxRecDepth 20000 in
theorem mi_128 : mm_inst 128 := ⟨(mm_t4 (w := .instanceMethod yX7_mayAtOnce) 146 (by decide +kernel) (by decide +kernel)), (mm_t0 (w := .selects RX7 yX7_mayAtOnce yX7_mayAtOnce) 48 (by decide +kernel) (by decide +kernel)), rfl⟩
set_option maxRecDepth 20000 in
theorem mc_129 : mm_cal 129 := ⟨(mm_t1 (w := .initialized RX7) 8 (by decide +kernel) (by decide +kernel)), (mm_t4 (w := .code yX7_mostAtOnce cX7_mostAtOnce 3 (some .int)) 140 (by decide +kernel) (by decide +kernel)), by decide +kernel, ⟨by decide +kernel, by decide +kernel, by decide +kernel⟩, Nat.le_of_ble_eq_true rfl, rfl⟩
set_option maxRecDepth 20000 in
theorem mi_129 : mm_inst 129 := ⟨(mm_t4 (w := .instanceMethod yX7_mostAtOnce) 139 (by decide +kernel) (by decide +kernel)), (mm_t0 (w := .selects RX7 yX7_mostAtOnce yX7_mostAtOnce) 47 (by decide +kernel) (by decide +kernel)), rfl⟩
set_option maxRecDepth 20000 in
theorem mc_130 : mm_cal 130 := ⟨(mm_t1 (w := .initialized RX7) 8 (by decide +kernel) (by decide +kernel)), (mm_t4 (w := .code yX7_atOnce cX7_atOnce 1 (some .int)) 136 (by decide +kernel) (by decide +kernel)), by decide +kernel, ⟨by decide +kernel, by decide +kernel, by decide +kernel⟩, Nat.le_of_ble_eq_true rfl, rfl⟩
set_option maxRecDepth 20000 in
theorem mi_130 : mm_inst 130 := ⟨(mm_t4 (w := .instanceMethod yX7_atOnce) 134 (by decide +kernel) (by decide +kernel)), (mm_t4 (w := .selects RX7 yX7_atOnce yX7_atOnce) 135 (by decide +kernel) (by decide +kernel)), rfl⟩
set_option maxRecDepth 20000 in
theorem mc_131 : mm_cal 131 := ⟨(mm_t1 (w := .initialized RX7) 8 (by decide +kernel) (by decide +kernel)), (mm_t4 (w := .code yX7_mayBe cX7_mayBe 6 (some .boolean)) 159 (by decide +kernel) (by decide +kernel)), by decide +kernel, ⟨by decide +kernel, by decide +kernel, by decide +kernel⟩, Nat.le_of_ble_eq_true rfl, rfl⟩
set_option maxRecDepth 20000 in
theorem mi_131 : mm_inst 131 := ⟨(mm_t4 (w := .instanceMethod yX7_mayBe) 158 (by decide +kernel) (by decide +kernel)), (mm_t0 (w := .selects RX7 yX7_mayBe yX7_mayBe) 50 (by decide +kernel) (by decide +kernel)), rfl⟩
set_option maxRecDepth 20000 in
theorem mc_132 : mm_cal 132 := ⟨(mm_t1 (w := .initialized RX7) 8 (by decide +kernel) (by decide +kernel)), (mm_t4 (w := .code yX7_mayGoOn cX7_mayGoOn 7 (some .boolean)) 163 (by decide +kernel) (by decide +kernel)), by decide +kernel, ⟨by decide +kernel, by decide +kernel, by decide +kernel⟩, Nat.le_of_ble_eq_true rfl, rfl⟩
set_option maxRecDepth 20000 in
theorem mi_132 : mm_inst 132 := ⟨(mm_t4 (w := .instanceMethod yX7_mayGoOn) 162 (by decide +kernel) (by decide +kernel)), (mm_t0 (w := .selects RX7 yX7_mayGoOn yX7_mayGoOn) 51 (by decide +kernel) (by decide +kernel)), rfl⟩
set_option maxRecDepth 20000 in
theorem mc_133 : mm_cal 133 := ⟨(mm_t1 (w := .initialized RX7) 8 (by decide +kernel) (by decide +kernel)), (mm_t4 (w := .code yX7_find cX7_find 5 (some .boolean)) 155 (by decide +kernel) (by decide +kernel)), by decide +kernel, ⟨by decide +kernel, by decide +kernel, by decide +kernel⟩, Nat.le_of_ble_eq_true rfl, rfl⟩
set_option maxRecDepth 20000 in
theorem mi_133 : mm_inst 133 := ⟨(mm_t4 (w := .instanceMethod yX7_find) 154 (by decide +kernel) (by decide +kernel)), (mm_t0 (w := .selects RX7 yX7_find yX7_find) 49 (by decide +kernel) (by decide +kernel)), rfl⟩
set_option maxRecDepth 20000 in
theorem mc_134 : mm_cal 134 := ⟨(mm_t1 (w := .initialized RX7) 8 (by decide +kernel) (by decide +kernel)), (mm_t4 (w := .code yX7_soonest cX7_soonest 3 (some .int)) 151 (by decide +kernel) (by decide +kernel)), by decide +kernel, ⟨by decide +kernel, by decide +kernel, by decide +kernel⟩, Nat.le_of_ble_eq_true rfl, rfl⟩
set_option maxRecDepth 20000 in
theorem mi_134 : mm_inst 134 := ⟨(mm_t4 (w := .instanceMethod yX7_soonest) 149 (by decide +kernel) (by decide +kernel)), (mm_t4 (w := .selects RX7 yX7_soonest yX7_soonest) 150 (by decide +kernel) (by decide +kernel)), rfl⟩
set_option maxRecDepth 20000 in
theorem mc_135 : mm_cal 135 := ⟨(mm_t1 (w := .initialized RX7) 8 (by decide +kernel) (by decide +kernel)), (mm_t4 (w := .code yX7_alone cX7_alone 4 (some .int)) 167 (by decide +kernel) (by decide +kernel)), by decide +kernel, ⟨by decide +kernel, by decide +kernel, by decide +kernel⟩, Nat.le_of_ble_eq_true rfl, rfl⟩
set_option maxRecDepth 20000 in
theorem mi_135 : mm_inst 135 := ⟨(mm_t4 (w := .instanceMethod yX7_alone) 165 (by decide +kernel) (by decide +kernel)), (mm_t4 (w := .selects RX7 yX7_alone yX7_alone) 166 (by decide +kernel) (by decide +kernel)), rfl⟩
set_option maxRecDepth 20000 in
theorem mc_136 : mm_cal 136 := ⟨(mm_t1 (w := .initialized RX7) 8 (by decide +kernel) (by decide +kernel)), (mm_t4 (w := .code yX7_sunset cX7_sunset 4 (some .int)) 171 (by decide +kernel) (by decide +kernel)), by decide +kernel, ⟨by decide +kernel, by decide +kernel, by decide +kernel⟩, Nat.le_of_ble_eq_true rfl, rfl⟩
set_option maxRecDepth 20000 in
theorem mi_136 : mm_inst 136 := ⟨(mm_t4 (w := .instanceMethod yX7_sunset) 169 (by decide +kernel) (by decide +kernel)), (mm_t4 (w := .selects RX7 yX7_sunset yX7_sunset) 170 (by decide +kernel) (by decide +kernel)), rfl⟩
set_option maxRecDepth 20000 in
theorem mc_137 : mm_cal 137 := ⟨(mm_t1 (w := .initialized RX7) 8 (by decide +kernel) (by decide +kernel)), (mm_t4 (w := .code yX7_reed cX7_reed 3 (some .int)) 175 (by decide +kernel) (by decide +kernel)), by decide +kernel, ⟨by decide +kernel, by decide +kernel, by decide +kernel⟩, Nat.le_of_ble_eq_true rfl, rfl⟩
set_option maxRecDepth 20000 in
theorem mi_137 : mm_inst 137 := ⟨(mm_t4 (w := .instanceMethod yX7_reed) 173 (by decide +kernel) (by decide +kernel)), (mm_t4 (w := .selects RX7 yX7_reed yX7_reed) 174 (by decide +kernel) (by decide +kernel)), rfl⟩
set_option maxRecDepth 20000 in
theorem mc_138 : mm_cal 138 := ⟨(mm_t1 (w := .initialized RX7) 8 (by decide +kernel) (by decide +kernel)), (mm_t4 (w := .code yX7_pull cX7_pull 2 (some .int)) 179 (by decide +kernel) (by decide +kernel)), by decide +kernel, ⟨by decide +kernel, by decide +kernel, by decide +kernel⟩, Nat.le_of_ble_eq_true rfl, rfl⟩
set_option maxRecDepth 20000 in
theorem mi_138 : mm_inst 138 := ⟨(mm_t4 (w := .instanceMethod yX7_pull) 177 (by decide +kernel) (by decide +kernel)), (mm_t4 (w := .selects RX7 yX7_pull yX7_pull) 178 (by decide +kernel) (by decide +kernel)), rfl⟩
set_option maxRecDepth 20000 in
theorem mc_139 : mm_cal 139 := ⟨(mm_t1 (w := .initialized RX7) 8 (by decide +kernel) (by decide +kernel)), (mm_t4 (w := .code yX7_doesFit cX7_doesFit 5 (some .boolean)) 187 (by decide +kernel) (by decide +kernel)), by decide +kernel, ⟨by decide +kernel, by decide +kernel, by decide +kernel⟩, Nat.le_of_ble_eq_true rfl, rfl⟩
set_option maxRecDepth 20000 in
theorem mi_139 : mm_inst 139 := ⟨(mm_t4 (w := .instanceMethod yX7_doesFit) 186 (by decide +kernel) (by decide +kernel)), (mm_t0 (w := .selects RX7 yX7_doesFit yX7_doesFit) 52 (by decide +kernel) (by decide +kernel)), rfl⟩
set_option maxRecDepth 20000 in
theorem mc_140 : mm_cal 140 := ⟨(mm_t1 (w := .initialized RX7) 8 (by decide +kernel) (by decide +kernel)), (mm_t4 (w := .code yX7_fits cX7_fits 6 (some .int)) 183 (by decide +kernel) (by decide +kernel)), by decide +kernel, ⟨by decide +kernel, by decide +kernel, by decide +kernel⟩, Nat.le_of_ble_eq_true rfl, rfl⟩
set_option maxRecDepth 20000 in
theorem mi_140 : mm_inst 140 := ⟨(mm_t4 (w := .instanceMethod yX7_fits) 181 (by decide +kernel) (by decide +kernel)), (mm_t4 (w := .selects RX7 yX7_fits yX7_fits) 182 (by decide +kernel) (by decide +kernel)), rfl⟩
set_option maxRecDepth 20000 in
theorem mc_141 : mm_cal 141 := ⟨(mm_t1 (w := .initialized RX7) 8 (by decide +kernel) (by decide +kernel)), (mm_t4 (w := .code yX7_dig cX7_dig 6 (some .int)) 191 (by decide +kernel) (by decide +kernel)), by decide +kernel, ⟨by decide +kernel, by decide +kernel, by decide +kernel⟩, Nat.le_of_ble_eq_true rfl, rfl⟩
set_option maxRecDepth 20000 in
theorem mi_141 : mm_inst 141 := ⟨(mm_t4 (w := .instanceMethod yX7_dig) 189 (by decide +kernel) (by decide +kernel)), (mm_t4 (w := .selects RX7 yX7_dig yX7_dig) 190 (by decide +kernel) (by decide +kernel)), rfl⟩
set_option maxRecDepth 20000 in
theorem mc_142 : mm_cal 142 := ⟨(mm_t1 (w := .initialized RX7) 8 (by decide +kernel) (by decide +kernel)), (mm_t4 (w := .code yX7_sheet cX7_sheet 5 (some .int)) 195 (by decide +kernel) (by decide +kernel)), by decide +kernel, ⟨by decide +kernel, by decide +kernel, by decide +kernel⟩, Nat.le_of_ble_eq_true rfl, rfl⟩
set_option maxRecDepth 20000 in
theorem mi_142 : mm_inst 142 := ⟨(mm_t4 (w := .instanceMethod yX7_sheet) 193 (by decide +kernel) (by decide +kernel)), (mm_t4 (w := .selects RX7 yX7_sheet yX7_sheet) 194 (by decide +kernel) (by decide +kernel)), rfl⟩
set_option maxRecDepth 20000 in
theorem mc_143 : mm_cal 143 := ⟨(mm_t1 (w := .initialized RX7) 8 (by decide +kernel) (by decide +kernel)), (mm_t4 (w := .code yX7_lose cX7_lose 3 (some .int)) 199 (by decide +kernel) (by decide +kernel)), by decide +kernel, ⟨by decide +kernel, by decide +kernel, by decide +kernel⟩, Nat.le_of_ble_eq_true rfl, rfl⟩
set_option maxRecDepth 20000 in
theorem mi_143 : mm_inst 143 := ⟨(mm_t4 (w := .instanceMethod yX7_lose) 197 (by decide +kernel) (by decide +kernel)), (mm_t4 (w := .selects RX7 yX7_lose yX7_lose) 198 (by decide +kernel) (by decide +kernel)), rfl⟩
set_option maxRecDepth 20000 in
theorem mc_144 : mm_cal 144 := ⟨(mm_t1 (w := .initialized RX7) 8 (by decide +kernel) (by decide +kernel)), (mm_t4 (w := .code yX7_put cX7_put 4 (some .int)) 203 (by decide +kernel) (by decide +kernel)), by decide +kernel, ⟨by decide +kernel, by decide +kernel, by decide +kernel⟩, Nat.le_of_ble_eq_true rfl, rfl⟩
set_option maxRecDepth 20000 in
theorem mi_144 : mm_inst 144 := ⟨(mm_t4 (w := .instanceMethod yX7_put) 201 (by decide +kernel) (by decide +kernel)), (mm_t4 (w := .selects RX7 yX7_put yX7_put) 202 (by decide +kernel) (by decide +kernel)), rfl⟩
set_option maxRecDepth 20000 in
theorem mc_145 : mm_cal 145 := ⟨(mm_t1 (w := .initialized RX7) 8 (by decide +kernel) (by decide +kernel)), (mm_t4 (w := .code yX7_cell cX7_cell 4 (some .long)) 207 (by decide +kernel) (by decide +kernel)), by decide +kernel, ⟨by decide +kernel, by decide +kernel, by decide +kernel⟩, Nat.le_of_ble_eq_true rfl, rfl⟩
set_option maxRecDepth 20000 in
theorem mi_145 : mm_inst 145 := ⟨(mm_t4 (w := .instanceMethod yX7_cell) 205 (by decide +kernel) (by decide +kernel)), (mm_t4 (w := .selects RX7 yX7_cell yX7_cell) 206 (by decide +kernel) (by decide +kernel)), rfl⟩
set_option maxRecDepth 20000 in
theorem mc_146 : mm_cal 146 := ⟨(mm_t1 (w := .initialized RX7) 8 (by decide +kernel) (by decide +kernel)), (mm_t4 (w := .code yX7_copy cX7_copy 10 (some .int)) 215 (by decide +kernel) (by decide +kernel)), by decide +kernel, ⟨by decide +kernel, by decide +kernel, by decide +kernel⟩, Nat.le_of_ble_eq_true rfl, rfl⟩
set_option maxRecDepth 20000 in
theorem mi_146 : mm_inst 146 := ⟨(mm_t4 (w := .instanceMethod yX7_copy) 213 (by decide +kernel) (by decide +kernel)), (mm_t4 (w := .selects RX7 yX7_copy yX7_copy) 214 (by decide +kernel) (by decide +kernel)), rfl⟩
set_option maxRecDepth 20000 in
theorem mc_147 : mm_cal 147 := ⟨(mm_t1 (w := .initialized RX7) 8 (by decide +kernel) (by decide +kernel)), (mm_t4 (w := .code yX7_begins cX7_begins 2 none) 223 (by decide +kernel) (by decide +kernel)), by decide +kernel, ⟨by decide +kernel, by decide +kernel, by decide +kernel⟩, Nat.le_of_ble_eq_true rfl, rfl⟩
set_option maxRecDepth 20000 in
theorem mi_147 : mm_inst 147 := ⟨(mm_t4 (w := .instanceMethod yX7_begins) 222 (by decide +kernel) (by decide +kernel)), (mm_t0 (w := .selects RX7 yX7_begins yX7_begins) 54 (by decide +kernel) (by decide +kernel)), rfl⟩
set_option maxRecDepth 20000 in
theorem mc_148 : mm_cal 148 := ⟨(mm_t1 (w := .initialized RX7) 8 (by decide +kernel) (by decide +kernel)), (mm_t4 (w := .code yX7_tell cX7_tell 3 (some .int)) 219 (by decide +kernel) (by decide +kernel)), by decide +kernel, ⟨by decide +kernel, by decide +kernel, by decide +kernel⟩, Nat.le_of_ble_eq_true rfl, rfl⟩
set_option maxRecDepth 20000 in
theorem mi_148 : mm_inst 148 := ⟨(mm_t4 (w := .instanceMethod yX7_tell) 217 (by decide +kernel) (by decide +kernel)), (mm_t4 (w := .selects RX7 yX7_tell yX7_tell) 218 (by decide +kernel) (by decide +kernel)), rfl⟩
set_option maxRecDepth 20000 in
theorem mc_149 : mm_cal 149 := ⟨(mm_t1 (w := .initialized RX7) 8 (by decide +kernel) (by decide +kernel)), (mm_t4 (w := .code yX7_make cX7_make 2 (some .int)) 227 (by decide +kernel) (by decide +kernel)), by decide +kernel, ⟨by decide +kernel, by decide +kernel, by decide +kernel⟩, Nat.le_of_ble_eq_true rfl, rfl⟩
set_option maxRecDepth 20000 in
theorem mi_149 : mm_inst 149 := ⟨(mm_t4 (w := .instanceMethod yX7_make) 225 (by decide +kernel) (by decide +kernel)), (mm_t4 (w := .selects RX7 yX7_make yX7_make) 226 (by decide +kernel) (by decide +kernel)), rfl⟩
set_option maxRecDepth 20000 in
theorem mc_150 : mm_cal 150 := ⟨(mm_t1 (w := .initialized RX7) 8 (by decide +kernel) (by decide +kernel)), (mm_t4 (w := .code yX7_as cX7_as 3 (some .int)) 231 (by decide +kernel) (by decide +kernel)), by decide +kernel, ⟨by decide +kernel, by decide +kernel, by decide +kernel⟩, Nat.le_of_ble_eq_true rfl, rfl⟩
set_option maxRecDepth 20000 in
theorem mi_150 : mm_inst 150 := ⟨(mm_t4 (w := .instanceMethod yX7_as) 229 (by decide +kernel) (by decide +kernel)), (mm_t4 (w := .selects RX7 yX7_as yX7_as) 230 (by decide +kernel) (by decide +kernel)), rfl⟩
set_option maxRecDepth 20000 in
theorem mc_151 : mm_cal 151 := ⟨(mm_t1 (w := .initialized RX7) 8 (by decide +kernel) (by decide +kernel)), (mm_t4 (w := .code yX7_trace cX7_trace 1 (some .int)) 235 (by decide +kernel) (by decide +kernel)), by decide +kernel, ⟨by decide +kernel, by decide +kernel, by decide +kernel⟩, Nat.le_of_ble_eq_true rfl, rfl⟩
set_option maxRecDepth 20000 in
theorem mi_151 : mm_inst 151 := ⟨(mm_t4 (w := .instanceMethod yX7_trace) 233 (by decide +kernel) (by decide +kernel)), (mm_t4 (w := .selects RX7 yX7_trace yX7_trace) 234 (by decide +kernel) (by decide +kernel)), rfl⟩
set_option maxRecDepth 20000 in
theorem mc_152 : mm_cal 152 := ⟨(mm_t1 (w := .initialized RX7) 8 (by decide +kernel) (by decide +kernel)), (mm_t4 (w := .code yX7_fault cX7_fault 1 (some .int)) 239 (by decide +kernel) (by decide +kernel)), by decide +kernel, ⟨by decide +kernel, by decide +kernel, by decide +kernel⟩, Nat.le_of_ble_eq_true rfl, rfl⟩
set_option maxRecDepth 20000 in
theorem mi_152 : mm_inst 152 := ⟨(mm_t4 (w := .instanceMethod yX7_fault) 237 (by decide +kernel) (by decide +kernel)), (mm_t4 (w := .selects RX7 yX7_fault yX7_fault) 238 (by decide +kernel) (by decide +kernel)), rfl⟩
set_option maxRecDepth 20000 in
theorem mc_153 : mm_cal 153 := ⟨(mm_t1 (w := .initialized RX7) 8 (by decide +kernel) (by decide +kernel)), (mm_t5 (w := .code yX7_many cX7_many 2 (some .int)) 3 (by decide +kernel) (by decide +kernel)), by decide +kernel, ⟨by decide +kernel, by decide +kernel, by decide +kernel⟩, Nat.le_of_ble_eq_true rfl, rfl⟩
set_option maxRecDepth 20000 in
theorem mi_153 : mm_inst 153 := ⟨(mm_t5 (w := .instanceMethod yX7_many) 1 (by decide +kernel) (by decide +kernel)), (mm_t5 (w := .selects RX7 yX7_many yX7_many) 2 (by decide +kernel) (by decide +kernel)), rfl⟩
set_option maxRecDepth 20000 in
theorem mc_154 : mm_cal 154 := ⟨(mm_t1 (w := .initialized RJ6) 12 (by decide +kernel) (by decide +kernel)), (mm_t2 (w := .code yJ6_bitCount_0f7a4 cJ6_bitCount_0f7a4 1 (some .int)) 185 (by decide +kernel) (by decide +kernel)), by decide +kernel, ⟨by decide +kernel, by decide +kernel, by decide +kernel⟩, Nat.le_of_ble_eq_true rfl, rfl⟩
theorem mst_154 : mm_stat 154 := (mm_t2 (w := .static yJ6_bitCount_0f7a4) 184 (by decide +kernel) (by decide +kernel))
set_option maxRecDepth 20000 in
theorem mc_155 : mm_cal 155 := ⟨(mm_t1 (w := .initialized RJ13) 10 (by decide +kernel) (by decide +kernel)), (mm_t2 (w := .code yJ13_bitCount_95d88 cJ13_bitCount_95d88 2 (some .int)) 124 (by decide +kernel) (by decide +kernel)), by decide +kernel, ⟨by decide +kernel, by decide +kernel, by decide +kernel⟩, Nat.le_of_ble_eq_true rfl, rfl⟩
theorem mst_155 : mm_stat 155 := (mm_t2 (w := .static yJ13_bitCount_95d88) 123 (by decide +kernel) (by decide +kernel))
set_option maxRecDepth 20000 in
theorem mc_156 : mm_cal 156 := ⟨(mm_t1 (w := .initialized RJ7) 11 (by decide +kernel) (by decide +kernel)), (mm_t2 (w := .code yJ7_fill_d0a16 cJ7_fill_d0a16 5 none) 216 (by decide +kernel) (by decide +kernel)), by decide +kernel, ⟨by decide +kernel, by decide +kernel, by decide +kernel⟩, Nat.le_of_ble_eq_true rfl, rfl⟩
theorem mst_156 : mm_stat 156 := (mm_t2 (w := .static yJ7_fill_d0a16) 215 (by decide +kernel) (by decide +kernel))
set_option maxRecDepth 20000 in
theorem mc_157 : mm_cal 157 := ⟨(mm_t1 (w := .initialized RJ7) 11 (by decide +kernel) (by decide +kernel)), (mm_t2 (w := .code yJ7_fill_53178 cJ7_fill_53178 4 none) 181 (by decide +kernel) (by decide +kernel)), by decide +kernel, ⟨by decide +kernel, by decide +kernel, by decide +kernel⟩, Nat.le_of_ble_eq_true rfl, rfl⟩
theorem mst_157 : mm_stat 157 := (mm_t2 (w := .static yJ7_fill_53178) 180 (by decide +kernel) (by decide +kernel))
def mm_Pv (o : Nat) (e : Nat × Nat) : Prop := Cond.methodLink (mm_nm o) e.1 (mm_M e.2).2.1 ∈ mm_TB ∧ mm_cal e.2 ∧ mm_inst e.2
def mm_Pj (o k : Nat) (n : MethodName) : Prop := Cond.methodLink (mm_nm o) k n ∈ mm_TB
def mm_Ps (o : Nat) (e : Nat × Nat) : Prop := (e.2 < 1000 → Cond.methodLink (mm_nm o) e.1 (mm_M e.2).2.1 ∈ mm_TB ∧ mm_cal e.2 ∧ mm_stat e.2) ∧ (e.2 = 1000 → mm_Pj o e.1 Lib.Math.max.name) ∧ (e.2 = 1001 → mm_Pj o e.1 Lib.Math.min.name) ∧ (e.2 = 1002 → mm_Pj o e.1 Lib.Math.abs.name) ∧ (e.2 = 1003 → mm_Pj o e.1 arraycopyName)
theorem mv_0 : ∀ e ∈ mm_vT_0, mm_Pv 0 e := fun _ h => absurd h List.not_mem_nil
set_option maxRecDepth 20000 in
theorem mv_1_e0 : mm_Pv 1 (13, 5) := ⟨(mm_t2 (w := .methodLink RX1 13 yX1_ofTwo) 108 (by decide +kernel) (by decide +kernel)), mc_5, mi_5⟩
set_option maxRecDepth 20000 in
theorem mv_1_e1 : mm_Pv 1 (32, 1) := ⟨(mm_t2 (w := .methodLink RX1 32 yX0_reach) 112 (by decide +kernel) (by decide +kernel)), mc_1, mi_1⟩
set_option maxRecDepth 20000 in
theorem mv_1_e2 : mm_Pv 1 (36, 11) := ⟨(mm_t2 (w := .methodLink RX1 36 yX2_lasts) 113 (by decide +kernel) (by decide +kernel)), mc_11, mi_11⟩
set_option maxRecDepth 20000 in
theorem mv_1_e3 : mm_Pv 1 (41, 12) := ⟨(mm_t2 (w := .methodLink RX1 41 yX2_ringAt) 114 (by decide +kernel) (by decide +kernel)), mc_12, mi_12⟩
set_option maxRecDepth 20000 in
theorem mv_1_e4 : mm_Pv 1 (45, 14) := ⟨(mm_t2 (w := .methodLink RX1 45 yX2_lesserBeside) 115 (by decide +kernel) (by decide +kernel)), mc_14, mi_14⟩
theorem mv_1 : ∀ e ∈ mm_vT_1, mm_Pv 1 e := List.forall_mem_cons.mpr ⟨mv_1_e0, List.forall_mem_cons.mpr ⟨mv_1_e1, List.forall_mem_cons.mpr ⟨mv_1_e2, List.forall_mem_cons.mpr ⟨mv_1_e3, List.forall_mem_cons.mpr ⟨mv_1_e4, fun _ h => absurd h List.not_mem_nil⟩⟩⟩⟩⟩
set_option maxRecDepth 20000 in
theorem mv_2_e0 : mm_Pv 2 (33, 7) := ⟨(mm_t2 (w := .methodLink RX2 33 yX2_turnTo) 12 (by decide +kernel) (by decide +kernel)), mc_7, mi_7⟩
set_option maxRecDepth 20000 in
theorem mv_2_e1 : mm_Pv 2 (43, 9) := ⟨(mm_t2 (w := .methodLink RX2 43 yX2_isWater) 40 (by decide +kernel) (by decide +kernel)), mc_9, mi_9⟩
set_option maxRecDepth 20000 in
theorem mv_2_e2 : mm_Pv 2 (47, 11) := ⟨(mm_t2 (w := .methodLink RX2 47 yX2_lasts) 41 (by decide +kernel) (by decide +kernel)), mc_11, mi_11⟩
set_option maxRecDepth 20000 in
theorem mv_2_e3 : mm_Pv 2 (51, 13) := ⟨(mm_t2 (w := .methodLink RX2 51 yX2_spread) 45 (by decide +kernel) (by decide +kernel)), mc_13, mi_13⟩
set_option maxRecDepth 20000 in
theorem mv_2_e4 : mm_Pv 2 (60, 8) := ⟨(mm_t2 (w := .methodLink RX2 60 yX2_has) 99 (by decide +kernel) (by decide +kernel)), mc_8, mi_8⟩
theorem mv_2 : ∀ e ∈ mm_vT_2, mm_Pv 2 e := List.forall_mem_cons.mpr ⟨mv_2_e0, List.forall_mem_cons.mpr ⟨mv_2_e1, List.forall_mem_cons.mpr ⟨mv_2_e2, List.forall_mem_cons.mpr ⟨mv_2_e3, List.forall_mem_cons.mpr ⟨mv_2_e4, fun _ h => absurd h List.not_mem_nil⟩⟩⟩⟩⟩
set_option maxRecDepth 20000 in
theorem mv_3_e0 : mm_Pv 3 (26, 17) := ⟨(mm_t1 (w := .methodLink RX3 26 yX3_goesOn) 236 (by decide +kernel) (by decide +kernel)), mc_17, mi_17⟩
set_option maxRecDepth 20000 in
theorem mv_3_e1 : mm_Pv 3 (30, 16) := ⟨(mm_t2 (w := .methodLink RX3 30 yX3_end) 0 (by decide +kernel) (by decide +kernel)), mc_16, mi_16⟩
set_option maxRecDepth 20000 in
theorem mv_3_e2 : mm_Pv 3 (34, 18) := ⟨(mm_t2 (w := .methodLink RX3 34 yX3_goesOnInRows) 4 (by decide +kernel) (by decide +kernel)), mc_18, mi_18⟩
theorem mv_3 : ∀ e ∈ mm_vT_3, mm_Pv 3 e := List.forall_mem_cons.mpr ⟨mv_3_e0, List.forall_mem_cons.mpr ⟨mv_3_e1, List.forall_mem_cons.mpr ⟨mv_3_e2, fun _ h => absurd h List.not_mem_nil⟩⟩⟩
theorem mv_4 : ∀ e ∈ mm_vT_4, mm_Pv 4 e := fun _ h => absurd h List.not_mem_nil
set_option maxRecDepth 20000 in
theorem mv_5_e0 : mm_Pv 5 (35, 23) := ⟨(mm_t2 (w := .methodLink RX5 35 yX5_forgetPlan) 141 (by decide +kernel) (by decide +kernel)), mc_23, mi_23⟩
set_option maxRecDepth 20000 in
theorem mv_5_e1 : mm_Pv 5 (38, 25) := ⟨(mm_t2 (w := .methodLink RX5 38 yX5_learnPair) 142 (by decide +kernel) (by decide +kernel)), mc_25, mi_25⟩
set_option maxRecDepth 20000 in
theorem mv_5_e2 : mm_Pv 5 (47, 1) := ⟨(mm_t2 (w := .methodLink RX5 47 yX0_reach) 146 (by decide +kernel) (by decide +kernel)), mc_1, mi_1⟩
set_option maxRecDepth 20000 in
theorem mv_5_e3 : mm_Pv 5 (51, 11) := ⟨(mm_t2 (w := .methodLink RX5 51 yX2_lasts) 147 (by decide +kernel) (by decide +kernel)), mc_11, mi_11⟩
set_option maxRecDepth 20000 in
theorem mv_5_e4 : mm_Pv 5 (57, 5) := ⟨(mm_t2 (w := .methodLink RX5 57 yX1_ofTwo) 148 (by decide +kernel) (by decide +kernel)), mc_5, mi_5⟩
set_option maxRecDepth 20000 in
theorem mv_5_e5 : mm_Pv 5 (81, 31) := ⟨(mm_t2 (w := .methodLink RX5 81 yX5_widestPair) 201 (by decide +kernel) (by decide +kernel)), mc_31, mi_31⟩
set_option maxRecDepth 20000 in
theorem mv_5_e6 : mm_Pv 5 (106, 26) := ⟨(mm_t2 (w := .methodLink RX5 106 yX5_leastGap) 205 (by decide +kernel) (by decide +kernel)), mc_26, mi_26⟩
set_option maxRecDepth 20000 in
theorem mv_5_e7 : mm_Pv 5 (84, 33) := ⟨(mm_t2 (w := .methodLink RX5 84 yX5_canThrow) 210 (by decide +kernel) (by decide +kernel)), mc_33, mi_33⟩
set_option maxRecDepth 20000 in
theorem mv_5_e8 : mm_Pv 5 (122, 34) := ⟨(mm_t2 (w := .methodLink RX5 122 yX5_weightIn) 217 (by decide +kernel) (by decide +kernel)), mc_34, mi_34⟩
set_option maxRecDepth 20000 in
theorem mv_5_e9 : mm_Pv 5 (103, 35) := ⟨(mm_t2 (w := .methodLink RX5 103 yX5_canPlace) 222 (by decide +kernel) (by decide +kernel)), mc_35, mi_35⟩
set_option maxRecDepth 20000 in
theorem mv_5_e10 : mm_Pv 5 (125, 36) := ⟨(mm_t2 (w := .methodLink RX5 125 yX5_tightest) 226 (by decide +kernel) (by decide +kernel)), mc_36, mi_36⟩
set_option maxRecDepth 20000 in
theorem mv_5_e11 : mm_Pv 5 (99, 37) := ⟨(mm_t2 (w := .methodLink RX5 99 yX5_leavesRoom) 230 (by decide +kernel) (by decide +kernel)), mc_37, mi_37⟩
set_option maxRecDepth 20000 in
theorem mv_5_e12 : mm_Pv 5 (91, 30) := ⟨(mm_t2 (w := .methodLink RX5 91 yX5_firstThatWillDo) 234 (by decide +kernel) (by decide +kernel)), mc_30, mi_30⟩
set_option maxRecDepth 20000 in
theorem mv_5_e13 : mm_Pv 5 (69, 28) := ⟨(mm_t3 (w := .methodLink RX5 69 yX5_meetsOneAhead) 6 (by decide +kernel) (by decide +kernel)), mc_28, mi_28⟩
theorem mv_5 : ∀ e ∈ mm_vT_5, mm_Pv 5 e := List.forall_mem_cons.mpr ⟨mv_5_e0, List.forall_mem_cons.mpr ⟨mv_5_e1, List.forall_mem_cons.mpr ⟨mv_5_e2, List.forall_mem_cons.mpr ⟨mv_5_e3, List.forall_mem_cons.mpr ⟨mv_5_e4, List.forall_mem_cons.mpr ⟨mv_5_e5, List.forall_mem_cons.mpr ⟨mv_5_e6, List.forall_mem_cons.mpr ⟨mv_5_e7, List.forall_mem_cons.mpr ⟨mv_5_e8, List.forall_mem_cons.mpr ⟨mv_5_e9, List.forall_mem_cons.mpr ⟨mv_5_e10, List.forall_mem_cons.mpr ⟨mv_5_e11, List.forall_mem_cons.mpr ⟨mv_5_e12, List.forall_mem_cons.mpr ⟨mv_5_e13, fun _ h => absurd h List.not_mem_nil⟩⟩⟩⟩⟩⟩⟩⟩⟩⟩⟩⟩⟩⟩
set_option maxRecDepth 20000 in
theorem mv_6_e0 : mm_Pv 6 (79, 20) := ⟨(mm_t1 (w := .methodLink RX6 79 yX4_isOfAnother) 220 (by decide +kernel) (by decide +kernel)), mc_20, mi_20⟩
set_option maxRecDepth 20000 in
theorem mv_6_e1 : mm_Pv 6 (82, 70) := ⟨(mm_t1 (w := .methodLink RX6 82 yX6_faulty) 224 (by decide +kernel) (by decide +kernel)), mc_70, mi_70⟩
set_option maxRecDepth 20000 in
theorem mv_6_e2 : mm_Pv 6 (90, 21) := ⟨(mm_t1 (w := .methodLink RX6 90 yX4_hasCells) 228 (by decide +kernel) (by decide +kernel)), mc_21, mi_21⟩
set_option maxRecDepth 20000 in
theorem mv_6_e3 : mm_Pv 6 (94, 15) := ⟨(mm_t1 (w := .methodLink RX6 94 yX3_read) 232 (by decide +kernel) (by decide +kernel)), mc_15, mi_15⟩
set_option maxRecDepth 20000 in
theorem mv_6_e4 : mm_Pv 6 (108, 6) := ⟨(mm_t2 (w := .methodLink RX6 108 yX2_begin) 8 (by decide +kernel) (by decide +kernel)), mc_6, mi_6⟩
set_option maxRecDepth 20000 in
theorem mv_6_e5 : mm_Pv 6 (115, 23) := ⟨(mm_t2 (w := .methodLink RX6 115 yX5_forgetPlan) 16 (by decide +kernel) (by decide +kernel)), mc_23, mi_23⟩
set_option maxRecDepth 20000 in
theorem mv_6_e6 : mm_Pv 6 (121, 8) := ⟨(mm_t2 (w := .methodLink RX6 121 yX2_has) 24 (by decide +kernel) (by decide +kernel)), mc_8, mi_8⟩
set_option maxRecDepth 20000 in
theorem mv_6_e7 : mm_Pv 6 (124, 9) := ⟨(mm_t2 (w := .methodLink RX6 124 yX2_isWater) 28 (by decide +kernel) (by decide +kernel)), mc_9, mi_9⟩
set_option maxRecDepth 20000 in
theorem mv_6_e8 : mm_Pv 6 (127, 10) := ⟨(mm_t2 (w := .methodLink RX6 127 yX2_steps) 36 (by decide +kernel) (by decide +kernel)), mc_10, mi_10⟩
set_option maxRecDepth 20000 in
theorem mv_6_e9 : mm_Pv 6 (137, 2) := ⟨(mm_t2 (w := .methodLink RX6 137 yX0_add) 63 (by decide +kernel) (by decide +kernel)), mc_2, mi_2⟩
set_option maxRecDepth 20000 in
theorem mv_6_e10 : mm_Pv 6 (141, 0) := ⟨(mm_t2 (w := .methodLink RX6 141 yX0_has) 71 (by decide +kernel) (by decide +kernel)), mc_0, mi_0⟩
set_option maxRecDepth 20000 in
theorem mv_6_e11 : mm_Pv 6 (151, 1) := ⟨(mm_t2 (w := .methodLink RX6 151 yX0_reach) 75 (by decide +kernel) (by decide +kernel)), mc_1, mi_1⟩
set_option maxRecDepth 20000 in
theorem mv_6_e12 : mm_Pv 6 (154, 11) := ⟨(mm_t2 (w := .methodLink RX6 154 yX2_lasts) 81 (by decide +kernel) (by decide +kernel)), mc_11, mi_11⟩
set_option maxRecDepth 20000 in
theorem mv_6_e13 : mm_Pv 6 (157, 3) := ⟨(mm_t2 (w := .methodLink RX6 157 yX0_takeBack) 86 (by decide +kernel) (by decide +kernel)), mc_3, mi_3⟩
set_option maxRecDepth 20000 in
theorem mv_6_e14 : mm_Pv 6 (162, 12) := ⟨(mm_t2 (w := .methodLink RX6 162 yX2_ringAt) 95 (by decide +kernel) (by decide +kernel)), mc_12, mi_12⟩
set_option maxRecDepth 20000 in
theorem mv_6_e15 : mm_Pv 6 (166, 4) := ⟨(mm_t2 (w := .methodLink RX6 166 yX1_ofStones) 104 (by decide +kernel) (by decide +kernel)), mc_4, mi_4⟩
set_option maxRecDepth 20000 in
theorem mv_6_e16 : mm_Pv 6 (176, 24) := ⟨(mm_t2 (w := .methodLink RX6 176 yX5_learn) 137 (by decide +kernel) (by decide +kernel)), mc_24, mi_24⟩
set_option maxRecDepth 20000 in
theorem mv_6_e17 : mm_Pv 6 (180, 26) := ⟨(mm_t2 (w := .methodLink RX6 180 yX5_leastGap) 161 (by decide +kernel) (by decide +kernel)), mc_26, mi_26⟩
set_option maxRecDepth 20000 in
theorem mv_6_e18 : mm_Pv 6 (183, 79) := ⟨(mm_t2 (w := .methodLink RX6 183 yX6_mostTogether) 171 (by decide +kernel) (by decide +kernel)), mc_79, mi_79⟩
set_option maxRecDepth 20000 in
theorem mv_6_e19 : mm_Pv 6 (263, 80) := ⟨(mm_t2 (w := .methodLink RX6 263 yX6_findClashes) 175 (by decide +kernel) (by decide +kernel)), mc_80, mi_80⟩
set_option maxRecDepth 20000 in
theorem mv_6_e20 : mm_Pv 6 (275, 5) := ⟨(mm_t2 (w := .methodLink RX6 275 yX1_ofTwo) 182 (by decide +kernel) (by decide +kernel)), mc_5, mi_5⟩
set_option maxRecDepth 20000 in
theorem mv_6_e21 : mm_Pv 6 (266, 81) := ⟨(mm_t2 (w := .methodLink RX6 266 yX6_isPeaceful) 189 (by decide +kernel) (by decide +kernel)), mc_81, mi_81⟩
set_option maxRecDepth 20000 in
theorem mv_6_e22 : mm_Pv 6 (187, 29) := ⟨(mm_t2 (w := .methodLink RX6 187 yX5_makePlan) 197 (by decide +kernel) (by decide +kernel)), mc_29, mi_29⟩
set_option maxRecDepth 20000 in
theorem mv_6_e23 : mm_Pv 6 (196, 27) := ⟨(mm_t3 (w := .methodLink RX6 196 yX5_throwInTurn) 2 (by decide +kernel) (by decide +kernel)), mc_27, mi_27⟩
set_option maxRecDepth 20000 in
theorem mv_6_e24 : mm_Pv 6 (200, 32) := ⟨(mm_t3 (w := .methodLink RX6 200 yX5_mostBy) 17 (by decide +kernel) (by decide +kernel)), mc_32, mi_32⟩
set_option maxRecDepth 20000 in
theorem mv_6_e25 : mm_Pv 6 (203, 76) := ⟨(mm_t3 (w := .methodLink RX6 203 yX6_fitsInCell) 34 (by decide +kernel) (by decide +kernel)), mc_76, mi_76⟩
set_option maxRecDepth 20000 in
theorem mv_6_e26 : mm_Pv 6 (206, 77) := ⟨(mm_t3 (w := .methodLink RX6 206 yX6_firstFit) 38 (by decide +kernel) (by decide +kernel)), mc_77, mi_77⟩
set_option maxRecDepth 20000 in
theorem mv_6_e27 : mm_Pv 6 (214, 78) := ⟨(mm_t3 (w := .methodLink RX6 214 yX6_mostTogetherIfDug) 47 (by decide +kernel) (by decide +kernel)), mc_78, mi_78⟩
set_option maxRecDepth 20000 in
theorem mv_6_e28 : mm_Pv 6 (259, 7) := ⟨(mm_t3 (w := .methodLink RX6 259 yX2_turnTo) 51 (by decide +kernel) (by decide +kernel)), mc_7, mi_7⟩
set_option maxRecDepth 20000 in
theorem mv_6_e29 : mm_Pv 6 (217, 19) := ⟨(mm_t3 (w := .methodLink RX6 217 yX4_renew) 56 (by decide +kernel) (by decide +kernel)), mc_19, mi_19⟩
set_option maxRecDepth 20000 in
theorem mv_6_e30 : mm_Pv 6 (221, 22) := ⟨(mm_t3 (w := .methodLink RX6 221 yX4_take) 69 (by decide +kernel) (by decide +kernel)), mc_22, mi_22⟩
set_option maxRecDepth 20000 in
theorem mv_6_e31 : mm_Pv 6 (236, 85) := ⟨(mm_t3 (w := .methodLink RX6 236 yX6_grainTells) 88 (by decide +kernel) (by decide +kernel)), mc_85, mi_85⟩
set_option maxRecDepth 20000 in
theorem mv_6_e32 : mm_Pv 6 (279, 82) := ⟨(mm_t3 (w := .methodLink RX6 279 yX6_leave) 92 (by decide +kernel) (by decide +kernel)), mc_82, mi_82⟩
set_option maxRecDepth 20000 in
theorem mv_6_e33 : mm_Pv 6 (239, 84) := ⟨(mm_t3 (w := .methodLink RX6 239 yX6_pebbleTells) 96 (by decide +kernel) (by decide +kernel)), mc_84, mi_84⟩
set_option maxRecDepth 20000 in
theorem mv_6_e34 : mm_Pv 6 (242, 83) := ⟨(mm_t3 (w := .methodLink RX6 242 yX6_stoneTells) 100 (by decide +kernel) (by decide +kernel)), mc_83, mi_83⟩
set_option maxRecDepth 20000 in
theorem mv_6_e35 : mm_Pv 6 (245, 87) := ⟨(mm_t3 (w := .methodLink RX6 245 yX6_grainMakes) 108 (by decide +kernel) (by decide +kernel)), mc_87, mi_87⟩
set_option maxRecDepth 20000 in
theorem mv_6_e36 : mm_Pv 6 (248, 86) := ⟨(mm_t3 (w := .methodLink RX6 248 yX6_lentMakes) 112 (by decide +kernel) (by decide +kernel)), mc_86, mi_86⟩
theorem mv_6 : ∀ e ∈ mm_vT_6, mm_Pv 6 e := List.forall_mem_cons.mpr ⟨mv_6_e0, List.forall_mem_cons.mpr ⟨mv_6_e1, List.forall_mem_cons.mpr ⟨mv_6_e2, List.forall_mem_cons.mpr ⟨mv_6_e3, List.forall_mem_cons.mpr ⟨mv_6_e4, List.forall_mem_cons.mpr ⟨mv_6_e5, List.forall_mem_cons.mpr ⟨mv_6_e6, List.forall_mem_cons.mpr ⟨mv_6_e7, List.forall_mem_cons.mpr ⟨mv_6_e8, List.forall_mem_cons.mpr ⟨mv_6_e9, List.forall_mem_cons.mpr ⟨mv_6_e10, List.forall_mem_cons.mpr ⟨mv_6_e11, List.forall_mem_cons.mpr ⟨mv_6_e12, List.forall_mem_cons.mpr ⟨mv_6_e13, List.forall_mem_cons.mpr ⟨mv_6_e14, List.forall_mem_cons.mpr ⟨mv_6_e15, List.forall_mem_cons.mpr ⟨mv_6_e16, List.forall_mem_cons.mpr ⟨mv_6_e17, List.forall_mem_cons.mpr ⟨mv_6_e18, List.forall_mem_cons.mpr ⟨mv_6_e19, List.forall_mem_cons.mpr ⟨mv_6_e20, List.forall_mem_cons.mpr ⟨mv_6_e21, List.forall_mem_cons.mpr ⟨mv_6_e22, List.forall_mem_cons.mpr ⟨mv_6_e23, List.forall_mem_cons.mpr ⟨mv_6_e24, List.forall_mem_cons.mpr ⟨mv_6_e25, List.forall_mem_cons.mpr ⟨mv_6_e26, List.forall_mem_cons.mpr ⟨mv_6_e27, List.forall_mem_cons.mpr ⟨mv_6_e28, List.forall_mem_cons.mpr ⟨mv_6_e29, List.forall_mem_cons.mpr ⟨mv_6_e30, List.forall_mem_cons.mpr ⟨mv_6_e31, List.forall_mem_cons.mpr ⟨mv_6_e32, List.forall_mem_cons.mpr ⟨mv_6_e33, List.forall_mem_cons.mpr ⟨mv_6_e34, List.forall_mem_cons.mpr ⟨mv_6_e35, List.forall_mem_cons.mpr ⟨mv_6_e36, fun _ h => absurd h List.not_mem_nil⟩⟩⟩⟩⟩⟩⟩⟩⟩⟩⟩⟩⟩⟩⟩⟩⟩⟩⟩⟩⟩⟩⟩⟩⟩⟩⟩⟩⟩⟩⟩⟩⟩⟩⟩⟩⟩
set_option maxRecDepth 20000 in
theorem mv_7_e0 : mm_Pv 7 (86, 93) := ⟨(mm_t3 (w := .methodLink RX7 86 yX7_against) 237 (by decide +kernel) (by decide +kernel)), mc_93, mi_93⟩
set_option maxRecDepth 20000 in
theorem mv_7_e1 : mm_Pv 7 (90, 88) := ⟨(mm_t4 (w := .methodLink RX7 90 yX7_fails) 1 (by decide +kernel) (by decide +kernel)), mc_88, mi_88⟩
set_option maxRecDepth 20000 in
theorem mv_7_e2 : mm_Pv 7 (94, 98) := ⟨(mm_t4 (w := .methodLink RX7 94 yX7_readPond) 5 (by decide +kernel) (by decide +kernel)), mc_98, mi_98⟩
set_option maxRecDepth 20000 in
theorem mv_7_e3 : mm_Pv 7 (115, 96) := ⟨(mm_t4 (w := .methodLink RX7 115 yX7_digit) 9 (by decide +kernel) (by decide +kernel)), mc_96, mi_96⟩
set_option maxRecDepth 20000 in
theorem mv_7_e4 : mm_Pv 7 (72, 94) := ⟨(mm_t4 (w := .methodLink RX7 72 yX7_all) 13 (by decide +kernel) (by decide +kernel)), mc_94, mi_94⟩
set_option maxRecDepth 20000 in
theorem mv_7_e5 : mm_Pv 7 (103, 101) := ⟨(mm_t4 (w := .methodLink RX7 103 yX7_layWays) 17 (by decide +kernel) (by decide +kernel)), mc_101, mi_101⟩
set_option maxRecDepth 20000 in
theorem mv_7_e6 : mm_Pv 7 (119, 102) := ⟨(mm_t4 (w := .methodLink RX7 119 yX7_goOn) 21 (by decide +kernel) (by decide +kernel)), mc_102, mi_102⟩
set_option maxRecDepth 20000 in
theorem mv_7_e7 : mm_Pv 7 (123, 100) := ⟨(mm_t4 (w := .methodLink RX7 123 yX7_way) 25 (by decide +kernel) (by decide +kernel)), mc_100, mi_100⟩
set_option maxRecDepth 20000 in
theorem mv_7_e8 : mm_Pv 7 (126, 99) := ⟨(mm_t4 (w := .methodLink RX7 126 yX7_beside) 29 (by decide +kernel) (by decide +kernel)), mc_99, mi_99⟩
set_option maxRecDepth 20000 in
theorem mv_7_e9 : mm_Pv 7 (129, 95) := ⟨(mm_t4 (w := .methodLink RX7 129 yX7_isCell) 37 (by decide +kernel) (by decide +kernel)), mc_95, mi_95⟩
set_option maxRecDepth 20000 in
theorem mv_7_e10 : mm_Pv 7 (135, 107) := ⟨(mm_t4 (w := .methodLink RX7 135 yX7_isStone) 53 (by decide +kernel) (by decide +kernel)), mc_107, mi_107⟩
set_option maxRecDepth 20000 in
theorem mv_7_e11 : mm_Pv 7 (138, 109) := ⟨(mm_t4 (w := .methodLink RX7 138 yX7_overAt) 57 (by decide +kernel) (by decide +kernel)), mc_109, mi_109⟩
set_option maxRecDepth 20000 in
theorem mv_7_e12 : mm_Pv 7 (141, 106) := ⟨(mm_t4 (w := .methodLink RX7 141 yX7_comes) 73 (by decide +kernel) (by decide +kernel)), mc_106, mi_106⟩
set_option maxRecDepth 20000 in
theorem mv_7_e13 : mm_Pv 7 (162, 114) := ⟨(mm_t4 (w := .methodLink RX7 162 yX7_findMeet) 81 (by decide +kernel) (by decide +kernel)), mc_114, mi_114⟩
set_option maxRecDepth 20000 in
theorem mv_7_e14 : mm_Pv 7 (155, 115) := ⟨(mm_t4 (w := .methodLink RX7 155 yX7_isThere) 85 (by decide +kernel) (by decide +kernel)), mc_115, mi_115⟩
set_option maxRecDepth 20000 in
theorem mv_7_e15 : mm_Pv 7 (158, 113) := ⟨(mm_t4 (w := .methodLink RX7 158 yX7_offer) 89 (by decide +kernel) (by decide +kernel)), mc_113, mi_113⟩
set_option maxRecDepth 20000 in
theorem mv_7_e16 : mm_Pv 7 (165, 118) := ⟨(mm_t4 (w := .methodLink RX7 165 yX7_isWish) 105 (by decide +kernel) (by decide +kernel)), mc_118, mi_118⟩
set_option maxRecDepth 20000 in
theorem mv_7_e17 : mm_Pv 7 (176, 124) := ⟨(mm_t4 (w := .methodLink RX7 176 yX7_layMeets) 117 (by decide +kernel) (by decide +kernel)), mc_124, mi_124⟩
set_option maxRecDepth 20000 in
theorem mv_7_e18 : mm_Pv 7 (168, 125) := ⟨(mm_t4 (w := .methodLink RX7 168 yX7_layMeetsAt) 121 (by decide +kernel) (by decide +kernel)), mc_125, mi_125⟩
set_option maxRecDepth 20000 in
theorem mv_7_e19 : mm_Pv 7 (172, 122) := ⟨(mm_t4 (w := .methodLink RX7 172 yX7_isWithin) 125 (by decide +kernel) (by decide +kernel)), mc_122, mi_122⟩
set_option maxRecDepth 20000 in
theorem mv_7_e20 : mm_Pv 7 (179, 123) := ⟨(mm_t4 (w := .methodLink RX7 179 yX7_meetBy) 129 (by decide +kernel) (by decide +kernel)), mc_123, mi_123⟩
set_option maxRecDepth 20000 in
theorem mv_7_e21 : mm_Pv 7 (188, 129) := ⟨(mm_t4 (w := .methodLink RX7 188 yX7_mostAtOnce) 137 (by decide +kernel) (by decide +kernel)), mc_129, mi_129⟩
set_option maxRecDepth 20000 in
theorem mv_7_e22 : mm_Pv 7 (185, 128) := ⟨(mm_t4 (w := .methodLink RX7 185 yX7_mayAtOnce) 144 (by decide +kernel) (by decide +kernel)), mc_128, mi_128⟩
set_option maxRecDepth 20000 in
theorem mv_7_e23 : mm_Pv 7 (197, 133) := ⟨(mm_t4 (w := .methodLink RX7 197 yX7_find) 152 (by decide +kernel) (by decide +kernel)), mc_133, mi_133⟩
set_option maxRecDepth 20000 in
theorem mv_7_e24 : mm_Pv 7 (191, 131) := ⟨(mm_t4 (w := .methodLink RX7 191 yX7_mayBe) 156 (by decide +kernel) (by decide +kernel)), mc_131, mi_131⟩
set_option maxRecDepth 20000 in
theorem mv_7_e25 : mm_Pv 7 (194, 132) := ⟨(mm_t4 (w := .methodLink RX7 194 yX7_mayGoOn) 160 (by decide +kernel) (by decide +kernel)), mc_132, mi_132⟩
set_option maxRecDepth 20000 in
theorem mv_7_e26 : mm_Pv 7 (200, 139) := ⟨(mm_t4 (w := .methodLink RX7 200 yX7_doesFit) 184 (by decide +kernel) (by decide +kernel)), mc_139, mi_139⟩
set_option maxRecDepth 20000 in
theorem mv_7_e27 : mm_Pv 7 (203, 89) := ⟨(mm_t4 (w := .methodLink RX7 203 yX7_lost) 208 (by decide +kernel) (by decide +kernel)), mc_89, mi_89⟩
set_option maxRecDepth 20000 in
theorem mv_7_e28 : mm_Pv 7 (210, 147) := ⟨(mm_t4 (w := .methodLink RX7 210 yX7_begins) 220 (by decide +kernel) (by decide +kernel)), mc_147, mi_147⟩
theorem mv_7 : ∀ e ∈ mm_vT_7, mm_Pv 7 e := List.forall_mem_cons.mpr ⟨mv_7_e0, List.forall_mem_cons.mpr ⟨mv_7_e1, List.forall_mem_cons.mpr ⟨mv_7_e2, List.forall_mem_cons.mpr ⟨mv_7_e3, List.forall_mem_cons.mpr ⟨mv_7_e4, List.forall_mem_cons.mpr ⟨mv_7_e5, List.forall_mem_cons.mpr ⟨mv_7_e6, List.forall_mem_cons.mpr ⟨mv_7_e7, List.forall_mem_cons.mpr ⟨mv_7_e8, List.forall_mem_cons.mpr ⟨mv_7_e9, List.forall_mem_cons.mpr ⟨mv_7_e10, List.forall_mem_cons.mpr ⟨mv_7_e11, List.forall_mem_cons.mpr ⟨mv_7_e12, List.forall_mem_cons.mpr ⟨mv_7_e13, List.forall_mem_cons.mpr ⟨mv_7_e14, List.forall_mem_cons.mpr ⟨mv_7_e15, List.forall_mem_cons.mpr ⟨mv_7_e16, List.forall_mem_cons.mpr ⟨mv_7_e17, List.forall_mem_cons.mpr ⟨mv_7_e18, List.forall_mem_cons.mpr ⟨mv_7_e19, List.forall_mem_cons.mpr ⟨mv_7_e20, List.forall_mem_cons.mpr ⟨mv_7_e21, List.forall_mem_cons.mpr ⟨mv_7_e22, List.forall_mem_cons.mpr ⟨mv_7_e23, List.forall_mem_cons.mpr ⟨mv_7_e24, List.forall_mem_cons.mpr ⟨mv_7_e25, List.forall_mem_cons.mpr ⟨mv_7_e26, List.forall_mem_cons.mpr ⟨mv_7_e27, List.forall_mem_cons.mpr ⟨mv_7_e28, fun _ h => absurd h List.not_mem_nil⟩⟩⟩⟩⟩⟩⟩⟩⟩⟩⟩⟩⟩⟩⟩⟩⟩⟩⟩⟩⟩⟩⟩⟩⟩⟩⟩⟩⟩
set_option maxRecDepth 20000 in
theorem mv_8_e0 : mm_Pv 8 (13, 38) := ⟨(mm_t1 (w := .methodLink RL 13 yX6_pond) 210 (by decide +kernel) (by decide +kernel)), mc_38, mi_38⟩
set_option maxRecDepth 20000 in
theorem mv_8_e1 : mm_Pv 8 (18, 39) := ⟨(mm_t2 (w := .methodLink RL 18 yX6_water) 20 (by decide +kernel) (by decide +kernel)), mc_39, mi_39⟩
set_option maxRecDepth 20000 in
theorem mv_8_e2 : mm_Pv 8 (23, 40) := ⟨(mm_t2 (w := .methodLink RL 23 yX6_far) 32 (by decide +kernel) (by decide +kernel)), mc_40, mi_40⟩
set_option maxRecDepth 20000 in
theorem mv_8_e3 : mm_Pv 8 (28, 41) := ⟨(mm_t2 (w := .methodLink RL 28 yX6_stone) 53 (by decide +kernel) (by decide +kernel)), mc_41, mi_41⟩
set_option maxRecDepth 20000 in
theorem mv_8_e4 : mm_Pv 8 (33, 42) := ⟨(mm_t2 (w := .methodLink RL 33 yX6_ofStone) 67 (by decide +kernel) (by decide +kernel)), mc_42, mi_42⟩
set_option maxRecDepth 20000 in
theorem mv_8_e5 : mm_Pv 8 (37, 43) := ⟨(mm_t2 (w := .methodLink RL 37 yX6_back) 82 (by decide +kernel) (by decide +kernel)), mc_43, mi_43⟩
set_option maxRecDepth 20000 in
theorem mv_8_e6 : mm_Pv 8 (41, 44) := ⟨(mm_t2 (w := .methodLink RL 41 yX6_ring) 90 (by decide +kernel) (by decide +kernel)), mc_44, mi_44⟩
set_option maxRecDepth 20000 in
theorem mv_8_e7 : mm_Pv 8 (46, 45) := ⟨(mm_t2 (w := .methodLink RL 46 yX6_meet) 100 (by decide +kernel) (by decide +kernel)), mc_45, mi_45⟩
set_option maxRecDepth 20000 in
theorem mv_8_e8 : mm_Pv 8 (50, 46) := ⟨(mm_t2 (w := .methodLink RL 50 yX6_first) 129 (by decide +kernel) (by decide +kernel)), mc_46, mi_46⟩
set_option maxRecDepth 20000 in
theorem mv_8_e9 : mm_Pv 8 (54, 47) := ⟨(mm_t2 (w := .methodLink RL 54 yX6_wish) 133 (by decide +kernel) (by decide +kernel)), mc_47, mi_47⟩
set_option maxRecDepth 20000 in
theorem mv_8_e10 : mm_Pv 8 (58, 48) := ⟨(mm_t2 (w := .methodLink RL 58 yX6_ofWish) 149 (by decide +kernel) (by decide +kernel)), mc_48, mi_48⟩
set_option maxRecDepth 20000 in
theorem mv_8_e11 : mm_Pv 8 (62, 49) := ⟨(mm_t2 (w := .methodLink RL 62 yX6_drop) 153 (by decide +kernel) (by decide +kernel)), mc_49, mi_49⟩
set_option maxRecDepth 20000 in
theorem mv_8_e12 : mm_Pv 8 (66, 50) := ⟨(mm_t2 (w := .methodLink RL 66 yX6_apart) 157 (by decide +kernel) (by decide +kernel)), mc_50, mi_50⟩
set_option maxRecDepth 20000 in
theorem mv_8_e13 : mm_Pv 8 (70, 51) := ⟨(mm_t2 (w := .methodLink RL 70 yX6_atOnce) 167 (by decide +kernel) (by decide +kernel)), mc_51, mi_51⟩
set_option maxRecDepth 20000 in
theorem mv_8_e14 : mm_Pv 8 (75, 52) := ⟨(mm_t2 (w := .methodLink RL 75 yX6_soonest) 193 (by decide +kernel) (by decide +kernel)), mc_52, mi_52⟩
set_option maxRecDepth 20000 in
theorem mv_8_e15 : mm_Pv 8 (79, 53) := ⟨(mm_t2 (w := .methodLink RL 79 yX6_alone) 238 (by decide +kernel) (by decide +kernel)), mc_53, mi_53⟩
set_option maxRecDepth 20000 in
theorem mv_8_e16 : mm_Pv 8 (83, 54) := ⟨(mm_t3 (w := .methodLink RL 83 yX6_sunset) 13 (by decide +kernel) (by decide +kernel)), mc_54, mi_54⟩
set_option maxRecDepth 20000 in
theorem mv_8_e17 : mm_Pv 8 (87, 55) := ⟨(mm_t3 (w := .methodLink RL 87 yX6_reed) 22 (by decide +kernel) (by decide +kernel)), mc_55, mi_55⟩
set_option maxRecDepth 20000 in
theorem mv_8_e18 : mm_Pv 8 (91, 56) := ⟨(mm_t3 (w := .methodLink RL 91 yX6_pull) 26 (by decide +kernel) (by decide +kernel)), mc_56, mi_56⟩
set_option maxRecDepth 20000 in
theorem mv_8_e19 : mm_Pv 8 (95, 57) := ⟨(mm_t3 (w := .methodLink RL 95 yX6_fits) 30 (by decide +kernel) (by decide +kernel)), mc_57, mi_57⟩
set_option maxRecDepth 20000 in
theorem mv_8_e20 : mm_Pv 8 (99, 58) := ⟨(mm_t3 (w := .methodLink RL 99 yX6_dig) 43 (by decide +kernel) (by decide +kernel)), mc_58, mi_58⟩
set_option maxRecDepth 20000 in
theorem mv_8_e21 : mm_Pv 8 (103, 59) := ⟨(mm_t3 (w := .methodLink RL 103 yX6_sheet) 52 (by decide +kernel) (by decide +kernel)), mc_59, mi_59⟩
set_option maxRecDepth 20000 in
theorem mv_8_e22 : mm_Pv 8 (107, 60) := ⟨(mm_t3 (w := .methodLink RL 107 yX6_lose) 61 (by decide +kernel) (by decide +kernel)), mc_60, mi_60⟩
set_option maxRecDepth 20000 in
theorem mv_8_e23 : mm_Pv 8 (111, 61) := ⟨(mm_t3 (w := .methodLink RL 111 yX6_put) 65 (by decide +kernel) (by decide +kernel)), mc_61, mi_61⟩
set_option maxRecDepth 20000 in
theorem mv_8_e24 : mm_Pv 8 (115, 62) := ⟨(mm_t3 (w := .methodLink RL 115 yX6_cell) 73 (by decide +kernel) (by decide +kernel)), mc_62, mi_62⟩
set_option maxRecDepth 20000 in
theorem mv_8_e25 : mm_Pv 8 (120, 63) := ⟨(mm_t3 (w := .methodLink RL 120 yX6_copy) 77 (by decide +kernel) (by decide +kernel)), mc_63, mi_63⟩
set_option maxRecDepth 20000 in
theorem mv_8_e26 : mm_Pv 8 (125, 64) := ⟨(mm_t3 (w := .methodLink RL 125 yX6_tell) 84 (by decide +kernel) (by decide +kernel)), mc_64, mi_64⟩
set_option maxRecDepth 20000 in
theorem mv_8_e27 : mm_Pv 8 (129, 65) := ⟨(mm_t3 (w := .methodLink RL 129 yX6_make) 104 (by decide +kernel) (by decide +kernel)), mc_65, mi_65⟩
set_option maxRecDepth 20000 in
theorem mv_8_e28 : mm_Pv 8 (133, 66) := ⟨(mm_t3 (w := .methodLink RL 133 yX6_as) 116 (by decide +kernel) (by decide +kernel)), mc_66, mi_66⟩
set_option maxRecDepth 20000 in
theorem mv_8_e29 : mm_Pv 8 (137, 67) := ⟨(mm_t3 (w := .methodLink RL 137 yX6_trace) 120 (by decide +kernel) (by decide +kernel)), mc_67, mi_67⟩
set_option maxRecDepth 20000 in
theorem mv_8_e30 : mm_Pv 8 (141, 68) := ⟨(mm_t3 (w := .methodLink RL 141 yX6_fault) 124 (by decide +kernel) (by decide +kernel)), mc_68, mi_68⟩
set_option maxRecDepth 20000 in
theorem mv_8_e31 : mm_Pv 8 (145, 69) := ⟨(mm_t3 (w := .methodLink RL 145 yX6_many) 128 (by decide +kernel) (by decide +kernel)), mc_69, mi_69⟩
set_option maxRecDepth 20000 in
theorem mv_8_e32 : mm_Pv 8 (17, 97) := ⟨(mm_t3 (w := .methodLink RL 17 yX7_pond) 224 (by decide +kernel) (by decide +kernel)), mc_97, mi_97⟩
set_option maxRecDepth 20000 in
theorem mv_8_e33 : mm_Pv 8 (22, 103) := ⟨(mm_t4 (w := .methodLink RL 22 yX7_water) 33 (by decide +kernel) (by decide +kernel)), mc_103, mi_103⟩
set_option maxRecDepth 20000 in
theorem mv_8_e34 : mm_Pv 8 (27, 104) := ⟨(mm_t4 (w := .methodLink RL 27 yX7_far) 41 (by decide +kernel) (by decide +kernel)), mc_104, mi_104⟩
set_option maxRecDepth 20000 in
theorem mv_8_e35 : mm_Pv 8 (32, 108) := ⟨(mm_t4 (w := .methodLink RL 32 yX7_stone) 45 (by decide +kernel) (by decide +kernel)), mc_108, mi_108⟩
set_option maxRecDepth 20000 in
theorem mv_8_e36 : mm_Pv 8 (36, 110) := ⟨(mm_t4 (w := .methodLink RL 36 yX7_ofStone) 49 (by decide +kernel) (by decide +kernel)), mc_110, mi_110⟩
set_option maxRecDepth 20000 in
theorem mv_8_e37 : mm_Pv 8 (40, 111) := ⟨(mm_t4 (w := .methodLink RL 40 yX7_back) 64 (by decide +kernel) (by decide +kernel)), mc_111, mi_111⟩
set_option maxRecDepth 20000 in
theorem mv_8_e38 : mm_Pv 8 (45, 112) := ⟨(mm_t4 (w := .methodLink RL 45 yX7_ring) 68 (by decide +kernel) (by decide +kernel)), mc_112, mi_112⟩
set_option maxRecDepth 20000 in
theorem mv_8_e39 : mm_Pv 8 (49, 116) := ⟨(mm_t4 (w := .methodLink RL 49 yX7_meet) 77 (by decide +kernel) (by decide +kernel)), mc_116, mi_116⟩
set_option maxRecDepth 20000 in
theorem mv_8_e40 : mm_Pv 8 (53, 117) := ⟨(mm_t4 (w := .methodLink RL 53 yX7_first) 93 (by decide +kernel) (by decide +kernel)), mc_117, mi_117⟩
set_option maxRecDepth 20000 in
theorem mv_8_e41 : mm_Pv 8 (57, 119) := ⟨(mm_t4 (w := .methodLink RL 57 yX7_wish) 97 (by decide +kernel) (by decide +kernel)), mc_119, mi_119⟩
set_option maxRecDepth 20000 in
theorem mv_8_e42 : mm_Pv 8 (61, 120) := ⟨(mm_t4 (w := .methodLink RL 61 yX7_ofWish) 101 (by decide +kernel) (by decide +kernel)), mc_120, mi_120⟩
set_option maxRecDepth 20000 in
theorem mv_8_e43 : mm_Pv 8 (65, 121) := ⟨(mm_t4 (w := .methodLink RL 65 yX7_drop) 109 (by decide +kernel) (by decide +kernel)), mc_121, mi_121⟩
set_option maxRecDepth 20000 in
theorem mv_8_e44 : mm_Pv 8 (69, 126) := ⟨(mm_t4 (w := .methodLink RL 69 yX7_apart) 113 (by decide +kernel) (by decide +kernel)), mc_126, mi_126⟩
set_option maxRecDepth 20000 in
theorem mv_8_e45 : mm_Pv 8 (74, 130) := ⟨(mm_t4 (w := .methodLink RL 74 yX7_atOnce) 133 (by decide +kernel) (by decide +kernel)), mc_130, mi_130⟩
set_option maxRecDepth 20000 in
theorem mv_8_e46 : mm_Pv 8 (78, 134) := ⟨(mm_t4 (w := .methodLink RL 78 yX7_soonest) 148 (by decide +kernel) (by decide +kernel)), mc_134, mi_134⟩
set_option maxRecDepth 20000 in
theorem mv_8_e47 : mm_Pv 8 (82, 135) := ⟨(mm_t4 (w := .methodLink RL 82 yX7_alone) 164 (by decide +kernel) (by decide +kernel)), mc_135, mi_135⟩
set_option maxRecDepth 20000 in
theorem mv_8_e48 : mm_Pv 8 (86, 136) := ⟨(mm_t4 (w := .methodLink RL 86 yX7_sunset) 168 (by decide +kernel) (by decide +kernel)), mc_136, mi_136⟩
set_option maxRecDepth 20000 in
theorem mv_8_e49 : mm_Pv 8 (90, 137) := ⟨(mm_t4 (w := .methodLink RL 90 yX7_reed) 172 (by decide +kernel) (by decide +kernel)), mc_137, mi_137⟩
set_option maxRecDepth 20000 in
theorem mv_8_e50 : mm_Pv 8 (94, 138) := ⟨(mm_t4 (w := .methodLink RL 94 yX7_pull) 176 (by decide +kernel) (by decide +kernel)), mc_138, mi_138⟩
set_option maxRecDepth 20000 in
theorem mv_8_e51 : mm_Pv 8 (98, 140) := ⟨(mm_t4 (w := .methodLink RL 98 yX7_fits) 180 (by decide +kernel) (by decide +kernel)), mc_140, mi_140⟩
set_option maxRecDepth 20000 in
theorem mv_8_e52 : mm_Pv 8 (102, 141) := ⟨(mm_t4 (w := .methodLink RL 102 yX7_dig) 188 (by decide +kernel) (by decide +kernel)), mc_141, mi_141⟩
set_option maxRecDepth 20000 in
theorem mv_8_e53 : mm_Pv 8 (106, 142) := ⟨(mm_t4 (w := .methodLink RL 106 yX7_sheet) 192 (by decide +kernel) (by decide +kernel)), mc_142, mi_142⟩
set_option maxRecDepth 20000 in
theorem mv_8_e54 : mm_Pv 8 (110, 143) := ⟨(mm_t4 (w := .methodLink RL 110 yX7_lose) 196 (by decide +kernel) (by decide +kernel)), mc_143, mi_143⟩
set_option maxRecDepth 20000 in
theorem mv_8_e55 : mm_Pv 8 (114, 144) := ⟨(mm_t4 (w := .methodLink RL 114 yX7_put) 200 (by decide +kernel) (by decide +kernel)), mc_144, mi_144⟩
set_option maxRecDepth 20000 in
theorem mv_8_e56 : mm_Pv 8 (119, 145) := ⟨(mm_t4 (w := .methodLink RL 119 yX7_cell) 204 (by decide +kernel) (by decide +kernel)), mc_145, mi_145⟩
set_option maxRecDepth 20000 in
theorem mv_8_e57 : mm_Pv 8 (124, 146) := ⟨(mm_t4 (w := .methodLink RL 124 yX7_copy) 212 (by decide +kernel) (by decide +kernel)), mc_146, mi_146⟩
set_option maxRecDepth 20000 in
theorem mv_8_e58 : mm_Pv 8 (128, 148) := ⟨(mm_t4 (w := .methodLink RL 128 yX7_tell) 216 (by decide +kernel) (by decide +kernel)), mc_148, mi_148⟩
set_option maxRecDepth 20000 in
theorem mv_8_e59 : mm_Pv 8 (132, 149) := ⟨(mm_t4 (w := .methodLink RL 132 yX7_make) 224 (by decide +kernel) (by decide +kernel)), mc_149, mi_149⟩
set_option maxRecDepth 20000 in
theorem mv_8_e60 : mm_Pv 8 (136, 150) := ⟨(mm_t4 (w := .methodLink RL 136 yX7_as) 228 (by decide +kernel) (by decide +kernel)), mc_150, mi_150⟩
set_option maxRecDepth 20000 in
theorem mv_8_e61 : mm_Pv 8 (140, 151) := ⟨(mm_t4 (w := .methodLink RL 140 yX7_trace) 232 (by decide +kernel) (by decide +kernel)), mc_151, mi_151⟩
set_option maxRecDepth 20000 in
theorem mv_8_e62 : mm_Pv 8 (144, 152) := ⟨(mm_t4 (w := .methodLink RL 144 yX7_fault) 236 (by decide +kernel) (by decide +kernel)), mc_152, mi_152⟩
set_option maxRecDepth 20000 in
theorem mv_8_e63 : mm_Pv 8 (148, 153) := ⟨(mm_t5 (w := .methodLink RL 148 yX7_many) 0 (by decide +kernel) (by decide +kernel)), mc_153, mi_153⟩
theorem mv_8 : ∀ e ∈ mm_vT_8, mm_Pv 8 e := List.forall_mem_cons.mpr ⟨mv_8_e0, List.forall_mem_cons.mpr ⟨mv_8_e1, List.forall_mem_cons.mpr ⟨mv_8_e2, List.forall_mem_cons.mpr ⟨mv_8_e3, List.forall_mem_cons.mpr ⟨mv_8_e4, List.forall_mem_cons.mpr ⟨mv_8_e5, List.forall_mem_cons.mpr ⟨mv_8_e6, List.forall_mem_cons.mpr ⟨mv_8_e7, List.forall_mem_cons.mpr ⟨mv_8_e8, List.forall_mem_cons.mpr ⟨mv_8_e9, List.forall_mem_cons.mpr ⟨mv_8_e10, List.forall_mem_cons.mpr ⟨mv_8_e11, List.forall_mem_cons.mpr ⟨mv_8_e12, List.forall_mem_cons.mpr ⟨mv_8_e13, List.forall_mem_cons.mpr ⟨mv_8_e14, List.forall_mem_cons.mpr ⟨mv_8_e15, List.forall_mem_cons.mpr ⟨mv_8_e16, List.forall_mem_cons.mpr ⟨mv_8_e17, List.forall_mem_cons.mpr ⟨mv_8_e18, List.forall_mem_cons.mpr ⟨mv_8_e19, List.forall_mem_cons.mpr ⟨mv_8_e20, List.forall_mem_cons.mpr ⟨mv_8_e21, List.forall_mem_cons.mpr ⟨mv_8_e22, List.forall_mem_cons.mpr ⟨mv_8_e23, List.forall_mem_cons.mpr ⟨mv_8_e24, List.forall_mem_cons.mpr ⟨mv_8_e25, List.forall_mem_cons.mpr ⟨mv_8_e26, List.forall_mem_cons.mpr ⟨mv_8_e27, List.forall_mem_cons.mpr ⟨mv_8_e28, List.forall_mem_cons.mpr ⟨mv_8_e29, List.forall_mem_cons.mpr ⟨mv_8_e30, List.forall_mem_cons.mpr ⟨mv_8_e31, List.forall_mem_cons.mpr ⟨mv_8_e32, List.forall_mem_cons.mpr ⟨mv_8_e33, List.forall_mem_cons.mpr ⟨mv_8_e34, List.forall_mem_cons.mpr ⟨mv_8_e35, List.forall_mem_cons.mpr ⟨mv_8_e36, List.forall_mem_cons.mpr ⟨mv_8_e37, List.forall_mem_cons.mpr ⟨mv_8_e38, List.forall_mem_cons.mpr ⟨mv_8_e39, List.forall_mem_cons.mpr ⟨mv_8_e40, List.forall_mem_cons.mpr ⟨mv_8_e41, List.forall_mem_cons.mpr ⟨mv_8_e42, List.forall_mem_cons.mpr ⟨mv_8_e43, List.forall_mem_cons.mpr ⟨mv_8_e44, List.forall_mem_cons.mpr ⟨mv_8_e45, List.forall_mem_cons.mpr ⟨mv_8_e46, List.forall_mem_cons.mpr ⟨mv_8_e47, List.forall_mem_cons.mpr ⟨mv_8_e48, List.forall_mem_cons.mpr ⟨mv_8_e49, List.forall_mem_cons.mpr ⟨mv_8_e50, List.forall_mem_cons.mpr ⟨mv_8_e51, List.forall_mem_cons.mpr ⟨mv_8_e52, List.forall_mem_cons.mpr ⟨mv_8_e53, List.forall_mem_cons.mpr ⟨mv_8_e54, List.forall_mem_cons.mpr ⟨mv_8_e55, List.forall_mem_cons.mpr ⟨mv_8_e56, List.forall_mem_cons.mpr ⟨mv_8_e57, List.forall_mem_cons.mpr ⟨mv_8_e58, List.forall_mem_cons.mpr ⟨mv_8_e59, List.forall_mem_cons.mpr ⟨mv_8_e60, List.forall_mem_cons.mpr ⟨mv_8_e61, List.forall_mem_cons.mpr ⟨mv_8_e62, List.forall_mem_cons.mpr ⟨mv_8_e63, fun _ h => absurd h List.not_mem_nil⟩⟩⟩⟩⟩⟩⟩⟩⟩⟩⟩⟩⟩⟩⟩⟩⟩⟩⟩⟩⟩⟩⟩⟩⟩⟩⟩⟩⟩⟩⟩⟩⟩⟩⟩⟩⟩⟩⟩⟩⟩⟩⟩⟩⟩⟩⟩⟩⟩⟩⟩⟩⟩⟩⟩⟩⟩⟩⟩⟩⟩⟩⟩⟩
theorem mv_9 : ∀ e ∈ mm_vT_9, mm_Pv 9 e := fun _ h => absurd h List.not_mem_nil
theorem mv_10 : ∀ e ∈ mm_vT_10, mm_Pv 10 e := fun _ h => absurd h List.not_mem_nil
theorem mv_11 : ∀ e ∈ mm_vT_11, mm_Pv 11 e := fun _ h => absurd h List.not_mem_nil
theorem ms_0 : ∀ e ∈ mm_sT_0, mm_Ps 0 e := fun _ h => absurd h List.not_mem_nil
set_option maxRecDepth 20000 in
theorem ms_1_e0 : mm_Ps 1 (23, 1001) := ⟨fun h => absurd h (by decide), fun h => absurd h (by decide), fun _ => (mm_t2 (w := .methodLink RX1 23 Lib.Math.min.name) 128 (by decide +kernel) (by decide +kernel)), fun h => absurd h (by decide), fun h => absurd h (by decide)⟩
theorem ms_1 : ∀ e ∈ mm_sT_1, mm_Ps 1 e := List.forall_mem_cons.mpr ⟨ms_1_e0, fun _ h => absurd h List.not_mem_nil⟩
set_option maxRecDepth 20000 in
theorem ms_2_e0 : mm_Ps 2 (55, 1001) := ⟨fun h => absurd h (by decide), fun h => absurd h (by decide), fun _ => (mm_t2 (w := .methodLink RX2 55 Lib.Math.min.name) 50 (by decide +kernel) (by decide +kernel)), fun h => absurd h (by decide), fun h => absurd h (by decide)⟩
theorem ms_2 : ∀ e ∈ mm_sT_2, mm_Ps 2 e := List.forall_mem_cons.mpr ⟨ms_2_e0, fun _ h => absurd h List.not_mem_nil⟩
theorem ms_3 : ∀ e ∈ mm_sT_3, mm_Ps 3 e := fun _ h => absurd h List.not_mem_nil
set_option maxRecDepth 20000 in
theorem ms_4_e0 : mm_Ps 4 (24, 157) := ⟨fun _ => ⟨(mm_t3 (w := .methodLink RX4 24 yJ7_fill_53178) 60 (by decide +kernel) (by decide +kernel)), mc_157, mst_157⟩, fun h => absurd h (by decide), fun h => absurd h (by decide), fun h => absurd h (by decide), fun h => absurd h (by decide)⟩
theorem ms_4 : ∀ e ∈ mm_sT_4, mm_Ps 4 e := List.forall_mem_cons.mpr ⟨ms_4_e0, fun _ h => absurd h List.not_mem_nil⟩
set_option maxRecDepth 20000 in
theorem ms_5_e0 : mm_Ps 5 (109, 1001) := ⟨fun h => absurd h (by decide), fun h => absurd h (by decide), fun _ => (mm_t2 (w := .methodLink RX5 109 Lib.Math.min.name) 206 (by decide +kernel) (by decide +kernel)), fun h => absurd h (by decide), fun h => absurd h (by decide)⟩
set_option maxRecDepth 20000 in
theorem ms_5_e1 : mm_Ps 5 (73, 1000) := ⟨fun h => absurd h (by decide), fun _ => (mm_t2 (w := .methodLink RX5 73 Lib.Math.max.name) 207 (by decide +kernel) (by decide +kernel)), fun h => absurd h (by decide), fun h => absurd h (by decide), fun h => absurd h (by decide)⟩
set_option maxRecDepth 20000 in
theorem ms_5_e2 : mm_Ps 5 (116, 156) := ⟨fun _ => ⟨(mm_t2 (w := .methodLink RX5 116 yJ7_fill_d0a16) 214 (by decide +kernel) (by decide +kernel)), mc_156, mst_156⟩, fun h => absurd h (by decide), fun h => absurd h (by decide), fun h => absurd h (by decide), fun h => absurd h (by decide)⟩
set_option maxRecDepth 20000 in
theorem ms_5_e3 : mm_Ps 5 (94, 155) := ⟨fun _ => ⟨(mm_t2 (w := .methodLink RX5 94 yJ13_bitCount_95d88) 221 (by decide +kernel) (by decide +kernel)), mc_155, mst_155⟩, fun h => absurd h (by decide), fun h => absurd h (by decide), fun h => absurd h (by decide), fun h => absurd h (by decide)⟩
set_option maxRecDepth 20000 in
theorem ms_5_e4 : mm_Ps 5 (78, 1002) := ⟨fun h => absurd h (by decide), fun h => absurd h (by decide), fun h => absurd h (by decide), fun _ => (mm_t3 (w := .methodLink RX5 78 Lib.Math.abs.name) 10 (by decide +kernel) (by decide +kernel)), fun h => absurd h (by decide)⟩
set_option maxRecDepth 20000 in
theorem ms_5_e5 : mm_Ps 5 (112, 154) := ⟨fun _ => ⟨(mm_t3 (w := .methodLink RX5 112 yJ6_bitCount_0f7a4) 21 (by decide +kernel) (by decide +kernel)), mc_154, mst_154⟩, fun h => absurd h (by decide), fun h => absurd h (by decide), fun h => absurd h (by decide), fun h => absurd h (by decide)⟩
theorem ms_5 : ∀ e ∈ mm_sT_5, mm_Ps 5 e := List.forall_mem_cons.mpr ⟨ms_5_e0, List.forall_mem_cons.mpr ⟨ms_5_e1, List.forall_mem_cons.mpr ⟨ms_5_e2, List.forall_mem_cons.mpr ⟨ms_5_e3, List.forall_mem_cons.mpr ⟨ms_5_e4, List.forall_mem_cons.mpr ⟨ms_5_e5, fun _ h => absurd h List.not_mem_nil⟩⟩⟩⟩⟩⟩
set_option maxRecDepth 20000 in
theorem ms_6_e0 : mm_Ps 6 (72, 71) := ⟨fun _ => ⟨(mm_t1 (w := .methodLink RX6 72 yX6_isSheet) 214 (by decide +kernel) (by decide +kernel)), mc_71, mst_71⟩, fun h => absurd h (by decide), fun h => absurd h (by decide), fun h => absurd h (by decide), fun h => absurd h (by decide)⟩
set_option maxRecDepth 20000 in
theorem ms_6_e1 : mm_Ps 6 (76, 72) := ⟨fun _ => ⟨(mm_t1 (w := .methodLink RX6 76 yX6_isSort) 217 (by decide +kernel) (by decide +kernel)), mc_72, mst_72⟩, fun h => absurd h (by decide), fun h => absurd h (by decide), fun h => absurd h (by decide), fun h => absurd h (by decide)⟩
set_option maxRecDepth 20000 in
theorem ms_6_e2 : mm_Ps 6 (131, 73) := ⟨fun _ => ⟨(mm_t2 (w := .methodLink RX6 131 yX6_isKind) 57 (by decide +kernel) (by decide +kernel)), mc_73, mst_73⟩, fun h => absurd h (by decide), fun h => absurd h (by decide), fun h => absurd h (by decide), fun h => absurd h (by decide)⟩
set_option maxRecDepth 20000 in
theorem ms_6_e3 : mm_Ps 6 (134, 74) := ⟨fun _ => ⟨(mm_t2 (w := .methodLink RX6 134 yX6_isMinute) 60 (by decide +kernel) (by decide +kernel)), mc_74, mst_74⟩, fun h => absurd h (by decide), fun h => absurd h (by decide), fun h => absurd h (by decide), fun h => absurd h (by decide)⟩
set_option maxRecDepth 20000 in
theorem ms_6_e4 : mm_Ps 6 (252, 155) := ⟨fun _ => ⟨(mm_t2 (w := .methodLink RX6 252 yJ13_bitCount_95d88) 122 (by decide +kernel) (by decide +kernel)), mc_155, mst_155⟩, fun h => absurd h (by decide), fun h => absurd h (by decide), fun h => absurd h (by decide), fun h => absurd h (by decide)⟩
set_option maxRecDepth 20000 in
theorem ms_6_e5 : mm_Ps 6 (269, 157) := ⟨fun _ => ⟨(mm_t2 (w := .methodLink RX6 269 yJ7_fill_53178) 179 (by decide +kernel) (by decide +kernel)), mc_157, mst_157⟩, fun h => absurd h (by decide), fun h => absurd h (by decide), fun h => absurd h (by decide), fun h => absurd h (by decide)⟩
set_option maxRecDepth 20000 in
theorem ms_6_e6 : mm_Ps 6 (209, 154) := ⟨fun _ => ⟨(mm_t2 (w := .methodLink RX6 209 yJ6_bitCount_0f7a4) 183 (by decide +kernel) (by decide +kernel)), mc_154, mst_154⟩, fun h => absurd h (by decide), fun h => absurd h (by decide), fun h => absurd h (by decide), fun h => absurd h (by decide)⟩
set_option maxRecDepth 20000 in
theorem ms_6_e7 : mm_Ps 6 (230, 1003) := ⟨fun h => absurd h (by decide), fun h => absurd h (by decide), fun h => absurd h (by decide), fun h => absurd h (by decide), fun _ => (mm_t3 (w := .methodLink RX6 230 arraycopyName) 81 (by decide +kernel) (by decide +kernel))⟩
theorem ms_6 : ∀ e ∈ mm_sT_6, mm_Ps 6 e := List.forall_mem_cons.mpr ⟨ms_6_e0, List.forall_mem_cons.mpr ⟨ms_6_e1, List.forall_mem_cons.mpr ⟨ms_6_e2, List.forall_mem_cons.mpr ⟨ms_6_e3, List.forall_mem_cons.mpr ⟨ms_6_e4, List.forall_mem_cons.mpr ⟨ms_6_e5, List.forall_mem_cons.mpr ⟨ms_6_e6, List.forall_mem_cons.mpr ⟨ms_6_e7, fun _ h => absurd h List.not_mem_nil⟩⟩⟩⟩⟩⟩⟩⟩
set_option maxRecDepth 20000 in
theorem ms_7_e0 : mm_Ps 7 (79, 91) := ⟨fun _ => ⟨(mm_t3 (w := .methodLink RX7 79 yX7_isSheet) 228 (by decide +kernel) (by decide +kernel)), mc_91, mst_91⟩, fun h => absurd h (by decide), fun h => absurd h (by decide), fun h => absurd h (by decide), fun h => absurd h (by decide)⟩
set_option maxRecDepth 20000 in
theorem ms_7_e1 : mm_Ps 7 (62, 90) := ⟨fun _ => ⟨(mm_t3 (w := .methodLink RX7 62 yX7_within) 231 (by decide +kernel) (by decide +kernel)), mc_90, mst_90⟩, fun h => absurd h (by decide), fun h => absurd h (by decide), fun h => absurd h (by decide), fun h => absurd h (by decide)⟩
set_option maxRecDepth 20000 in
theorem ms_7_e2 : mm_Ps 7 (83, 92) := ⟨fun _ => ⟨(mm_t3 (w := .methodLink RX7 83 yX7_isSort) 234 (by decide +kernel) (by decide +kernel)), mc_92, mst_92⟩, fun h => absurd h (by decide), fun h => absurd h (by decide), fun h => absurd h (by decide), fun h => absurd h (by decide)⟩
set_option maxRecDepth 20000 in
theorem ms_7_e3 : mm_Ps 7 (132, 105) := ⟨fun _ => ⟨(mm_t4 (w := .methodLink RX7 132 yX7_reach) 61 (by decide +kernel) (by decide +kernel)), mc_105, mst_105⟩, fun h => absurd h (by decide), fun h => absurd h (by decide), fun h => absurd h (by decide), fun h => absurd h (by decide)⟩
set_option maxRecDepth 20000 in
theorem ms_7_e4 : mm_Ps 7 (182, 127) := ⟨fun _ => ⟨(mm_t4 (w := .methodLink RX7 182 yX7_size) 141 (by decide +kernel) (by decide +kernel)), mc_127, mst_127⟩, fun h => absurd h (by decide), fun h => absurd h (by decide), fun h => absurd h (by decide), fun h => absurd h (by decide)⟩
theorem ms_7 : ∀ e ∈ mm_sT_7, mm_Ps 7 e := List.forall_mem_cons.mpr ⟨ms_7_e0, List.forall_mem_cons.mpr ⟨ms_7_e1, List.forall_mem_cons.mpr ⟨ms_7_e2, List.forall_mem_cons.mpr ⟨ms_7_e3, List.forall_mem_cons.mpr ⟨ms_7_e4, fun _ h => absurd h List.not_mem_nil⟩⟩⟩⟩⟩
theorem ms_8 : ∀ e ∈ mm_sT_8, mm_Ps 8 e := fun _ h => absurd h List.not_mem_nil
theorem ms_9 : ∀ e ∈ mm_sT_9, mm_Ps 9 e := fun _ h => absurd h List.not_mem_nil
theorem ms_10 : ∀ e ∈ mm_sT_10, mm_Ps 10 e := fun _ h => absurd h List.not_mem_nil
theorem ms_11 : ∀ e ∈ mm_sT_11, mm_Ps 11 e := fun _ h => absurd h List.not_mem_nil
def mm_tt (tt : Nat) : FieldType := bif Nat.beq tt 1 then .int else bif Nat.beq tt 2 then .long else .boolean
def mm_Pf (o : Nat) (e : Nat × Nat × Nat × Nat) : Prop := ∃ q : vw_C, mm_K[e.2.1]? = some q ∧ e.2.2.1 < q.2.2 ∧ Cond.fieldLink (mm_nm o) e.1 (q.2.1 e.2.2.1).1 (q.2.1 e.2.2.1).2.1 (q.2.1 e.2.2.1).2.2.1 ∈ mm_TB ∧ (e.2.2.2 = 0 ∨ ((q.2.1 e.2.2.1).2.2.2 = false ∧ parseFieldDescriptor (q.2.1 e.2.2.1).2.2.1 = some (mm_tt e.2.2.2)))
set_option maxRecDepth 20000 in
theorem mf_0_e0 : mm_Pf 0 (9, 0, 0, 0) := ⟨(RX0, TX0, 4), rfl, Nat.le_of_ble_eq_true rfl, (mm_t1 (w := .fieldLink RX0 9 "PondRings$Listing" "kinds" "[I") 107 (by decide +kernel) (by decide +kernel)), Or.inl rfl⟩
set_option maxRecDepth 20000 in
theorem mf_0_e1 : mm_Pf 0 (15, 0, 1, 0) := ⟨(RX0, TX0, 4), rfl, Nat.le_of_ble_eq_true rfl, (mm_t1 (w := .fieldLink RX0 15 "PondRings$Listing" "places" "[I") 109 (by decide +kernel) (by decide +kernel)), Or.inl rfl⟩
set_option maxRecDepth 20000 in
theorem mf_0_e2 : mm_Pf 0 (18, 0, 2, 0) := ⟨(RX0, TX0, 4), rfl, Nat.le_of_ble_eq_true rfl, (mm_t1 (w := .fieldLink RX0 18 "PondRings$Listing" "minutes" "[I") 113 (by decide +kernel) (by decide +kernel)), Or.inl rfl⟩
set_option maxRecDepth 20000 in
theorem mf_0_e3 : mm_Pf 0 (21, 0, 3, 1) := ⟨(RX0, TX0, 4), rfl, Nat.le_of_ble_eq_true rfl, (mm_t1 (w := .fieldLink RX0 21 "PondRings$Listing" "count" "I") 116 (by decide +kernel) (by decide +kernel)), Or.inr ⟨rfl, by decide +kernel⟩⟩
theorem mf_0 : ∀ e ∈ mm_fT_0, mm_Pf 0 e := List.forall_mem_cons.mpr ⟨mf_0_e0, List.forall_mem_cons.mpr ⟨mf_0_e1, List.forall_mem_cons.mpr ⟨mf_0_e2, List.forall_mem_cons.mpr ⟨mf_0_e3, fun _ h => absurd h List.not_mem_nil⟩⟩⟩⟩
set_option maxRecDepth 20000 in
theorem mf_1_e0 : mm_Pf 1 (29, 0, 1, 0) := ⟨(RX0, TX0, 4), rfl, Nat.le_of_ble_eq_true rfl, (mm_t1 (w := .fieldLink RX1 29 "PondRings$Listing" "places" "[I") 110 (by decide +kernel) (by decide +kernel)), Or.inl rfl⟩
set_option maxRecDepth 20000 in
theorem mf_1_e1 : mm_Pf 1 (7, 0, 2, 0) := ⟨(RX0, TX0, 4), rfl, Nat.le_of_ble_eq_true rfl, (mm_t1 (w := .fieldLink RX1 7 "PondRings$Listing" "minutes" "[I") 114 (by decide +kernel) (by decide +kernel)), Or.inl rfl⟩
set_option maxRecDepth 20000 in
theorem mf_1_e2 : mm_Pf 1 (19, 1, 0, 1) := ⟨(RX1, TX1, 2), rfl, Nat.le_of_ble_eq_true rfl, (mm_t1 (w := .fieldLink RX1 19 "PondRings$Meeting" "minute" "I") 133 (by decide +kernel) (by decide +kernel)), Or.inr ⟨rfl, by decide +kernel⟩⟩
set_option maxRecDepth 20000 in
theorem mf_1_e3 : mm_Pf 1 (55, 1, 1, 1) := ⟨(RX1, TX1, 2), rfl, Nat.le_of_ble_eq_true rfl, (mm_t1 (w := .fieldLink RX1 55 "PondRings$Meeting" "place" "I") 135 (by decide +kernel) (by decide +kernel)), Or.inr ⟨rfl, by decide +kernel⟩⟩
theorem mf_1 : ∀ e ∈ mm_fT_1, mm_Pf 1 e := List.forall_mem_cons.mpr ⟨mf_1_e0, List.forall_mem_cons.mpr ⟨mf_1_e1, List.forall_mem_cons.mpr ⟨mf_1_e2, List.forall_mem_cons.mpr ⟨mf_1_e3, fun _ h => absurd h List.not_mem_nil⟩⟩⟩⟩
set_option maxRecDepth 20000 in
theorem mf_2_e0 : mm_Pf 2 (11, 2, 0, 0) := ⟨(RX2, TX2, 8), rfl, Nat.le_of_ble_eq_true rfl, (mm_t1 (w := .fieldLink RX2 11 "PondRings$Pond" "ripples" "[J") 72 (by decide +kernel) (by decide +kernel)), Or.inl rfl⟩
set_option maxRecDepth 20000 in
theorem mf_2_e1 : mm_Pf 2 (15, 2, 1, 0) := ⟨(RX2, TX2, 8), rfl, Nat.le_of_ble_eq_true rfl, (mm_t1 (w := .fieldLink RX2 15 "PondRings$Pond" "depths" "[I") 73 (by decide +kernel) (by decide +kernel)), Or.inl rfl⟩
set_option maxRecDepth 20000 in
theorem mf_2_e2 : mm_Pf 2 (40, 2, 2, 2) := ⟨(RX2, TX2, 8), rfl, Nat.le_of_ble_eq_true rfl, (mm_t1 (w := .fieldLink RX2 40 "PondRings$Pond" "ready" "J") 74 (by decide +kernel) (by decide +kernel)), Or.inr ⟨rfl, by decide +kernel⟩⟩
set_option maxRecDepth 20000 in
theorem mf_2_e3 : mm_Pf 2 (26, 2, 3, 2) := ⟨(RX2, TX2, 8), rfl, Nat.le_of_ble_eq_true rfl, (mm_t1 (w := .fieldLink RX2 26 "PondRings$Pond" "firstColumn" "J") 75 (by decide +kernel) (by decide +kernel)), Or.inr ⟨rfl, by decide +kernel⟩⟩
set_option maxRecDepth 20000 in
theorem mf_2_e4 : mm_Pf 2 (30, 2, 4, 2) := ⟨(RX2, TX2, 8), rfl, Nat.le_of_ble_eq_true rfl, (mm_t1 (w := .fieldLink RX2 30 "PondRings$Pond" "lastColumn" "J") 76 (by decide +kernel) (by decide +kernel)), Or.inr ⟨rfl, by decide +kernel⟩⟩
set_option maxRecDepth 20000 in
theorem mf_2_e5 : mm_Pf 2 (23, 2, 5, 1) := ⟨(RX2, TX2, 8), rfl, Nat.le_of_ble_eq_true rfl, (mm_t1 (w := .fieldLink RX2 23 "PondRings$Pond" "cells" "I") 77 (by decide +kernel) (by decide +kernel)), Or.inr ⟨rfl, by decide +kernel⟩⟩
set_option maxRecDepth 20000 in
theorem mf_2_e6 : mm_Pf 2 (19, 2, 6, 1) := ⟨(RX2, TX2, 8), rfl, Nat.le_of_ble_eq_true rfl, (mm_t1 (w := .fieldLink RX2 19 "PondRings$Pond" "wide" "I") 79 (by decide +kernel) (by decide +kernel)), Or.inr ⟨rfl, by decide +kernel⟩⟩
set_option maxRecDepth 20000 in
theorem mf_2_e7 : mm_Pf 2 (37, 2, 7, 2) := ⟨(RX2, TX2, 8), rfl, Nat.le_of_ble_eq_true rfl, (mm_t1 (w := .fieldLink RX2 37 "PondRings$Pond" "water" "J") 81 (by decide +kernel) (by decide +kernel)), Or.inr ⟨rfl, by decide +kernel⟩⟩
theorem mf_2 : ∀ e ∈ mm_fT_2, mm_Pf 2 e := List.forall_mem_cons.mpr ⟨mf_2_e0, List.forall_mem_cons.mpr ⟨mf_2_e1, List.forall_mem_cons.mpr ⟨mf_2_e2, List.forall_mem_cons.mpr ⟨mf_2_e3, List.forall_mem_cons.mpr ⟨mf_2_e4, List.forall_mem_cons.mpr ⟨mf_2_e5, List.forall_mem_cons.mpr ⟨mf_2_e6, List.forall_mem_cons.mpr ⟨mf_2_e7, fun _ h => absurd h List.not_mem_nil⟩⟩⟩⟩⟩⟩⟩⟩
set_option maxRecDepth 20000 in
theorem mf_3_e0 : mm_Pf 3 (20, 4, 0, 0) := ⟨(RX4, TX4, 4), rfl, Nat.le_of_ble_eq_true rfl, (mm_t1 (w := .fieldLink RX3 20 "PondRings$Sheet" "numbers" "[I") 30 (by decide +kernel) (by decide +kernel)), Or.inl rfl⟩
set_option maxRecDepth 20000 in
theorem mf_3_e1 : mm_Pf 3 (7, 3, 0, 1) := ⟨(RX3, TX3, 3), rfl, Nat.le_of_ble_eq_true rfl, (mm_t1 (w := .fieldLink RX3 7 "PondRings$PondText" "high" "I") 53 (by decide +kernel) (by decide +kernel)), Or.inr ⟨rfl, by decide +kernel⟩⟩
set_option maxRecDepth 20000 in
theorem mf_3_e2 : mm_Pf 3 (13, 3, 1, 1) := ⟨(RX3, TX3, 3), rfl, Nat.le_of_ble_eq_true rfl, (mm_t1 (w := .fieldLink RX3 13 "PondRings$PondText" "wide" "I") 55 (by decide +kernel) (by decide +kernel)), Or.inr ⟨rfl, by decide +kernel⟩⟩
set_option maxRecDepth 20000 in
theorem mf_3_e3 : mm_Pf 3 (16, 3, 2, 2) := ⟨(RX3, TX3, 3), rfl, Nat.le_of_ble_eq_true rfl, (mm_t1 (w := .fieldLink RX3 16 "PondRings$PondText" "water" "J") 57 (by decide +kernel) (by decide +kernel)), Or.inr ⟨rfl, by decide +kernel⟩⟩
theorem mf_3 : ∀ e ∈ mm_fT_3, mm_Pf 3 e := List.forall_mem_cons.mpr ⟨mf_3_e0, List.forall_mem_cons.mpr ⟨mf_3_e1, List.forall_mem_cons.mpr ⟨mf_3_e2, List.forall_mem_cons.mpr ⟨mf_3_e3, fun _ h => absurd h List.not_mem_nil⟩⟩⟩⟩
set_option maxRecDepth 20000 in
theorem mf_4_e0 : mm_Pf 4 (9, 4, 0, 0) := ⟨(RX4, TX4, 4), rfl, Nat.le_of_ble_eq_true rfl, (mm_t1 (w := .fieldLink RX4 9 "PondRings$Sheet" "numbers" "[I") 29 (by decide +kernel) (by decide +kernel)), Or.inl rfl⟩
set_option maxRecDepth 20000 in
theorem mf_4_e1 : mm_Pf 4 (13, 4, 1, 3) := ⟨(RX4, TX4, 4), rfl, Nat.le_of_ble_eq_true rfl, (mm_t1 (w := .fieldLink RX4 13 "PondRings$Sheet" "there" "Z") 32 (by decide +kernel) (by decide +kernel)), Or.inr ⟨rfl, by decide +kernel⟩⟩
set_option maxRecDepth 20000 in
theorem mf_4_e2 : mm_Pf 4 (17, 4, 2, 1) := ⟨(RX4, TX4, 4), rfl, Nat.le_of_ble_eq_true rfl, (mm_t1 (w := .fieldLink RX4 17 "PondRings$Sheet" "sort" "I") 34 (by decide +kernel) (by decide +kernel)), Or.inr ⟨rfl, by decide +kernel⟩⟩
set_option maxRecDepth 20000 in
theorem mf_4_e3 : mm_Pf 4 (21, 4, 3, 1) := ⟨(RX4, TX4, 4), rfl, Nat.le_of_ble_eq_true rfl, (mm_t1 (w := .fieldLink RX4 21 "PondRings$Sheet" "length" "I") 36 (by decide +kernel) (by decide +kernel)), Or.inr ⟨rfl, by decide +kernel⟩⟩
theorem mf_4 : ∀ e ∈ mm_fT_4, mm_Pf 4 e := List.forall_mem_cons.mpr ⟨mf_4_e0, List.forall_mem_cons.mpr ⟨mf_4_e1, List.forall_mem_cons.mpr ⟨mf_4_e2, List.forall_mem_cons.mpr ⟨mf_4_e3, fun _ h => absurd h List.not_mem_nil⟩⟩⟩⟩
set_option maxRecDepth 20000 in
theorem mf_5_e0 : mm_Pf 5 (42, 0, 1, 0) := ⟨(RX0, TX0, 4), rfl, Nat.le_of_ble_eq_true rfl, (mm_t1 (w := .fieldLink RX5 42 "PondRings$Listing" "places" "[I") 111 (by decide +kernel) (by decide +kernel)), Or.inl rfl⟩
set_option maxRecDepth 20000 in
theorem mf_5_e1 : mm_Pf 5 (11, 5, 0, 0) := ⟨(RX5, TX5, 8), rfl, Nat.le_of_ble_eq_true rfl, (mm_t1 (w := .fieldLink RX5 11 "PondRings$Timetable" "after" "[J") 148 (by decide +kernel) (by decide +kernel)), Or.inl rfl⟩
set_option maxRecDepth 20000 in
theorem mf_5_e2 : mm_Pf 5 (15, 5, 1, 0) := ⟨(RX5, TX5, 8), rfl, Nat.le_of_ble_eq_true rfl, (mm_t1 (w := .fieldLink RX5 15 "PondRings$Timetable" "before" "[J") 149 (by decide +kernel) (by decide +kernel)), Or.inl rfl⟩
set_option maxRecDepth 20000 in
theorem mf_5_e3 : mm_Pf 5 (18, 5, 2, 0) := ⟨(RX5, TX5, 8), rfl, Nat.le_of_ble_eq_true rfl, (mm_t1 (w := .fieldLink RX5 18 "PondRings$Timetable" "left" "[J") 150 (by decide +kernel) (by decide +kernel)), Or.inl rfl⟩
set_option maxRecDepth 20000 in
theorem mf_5_e4 : mm_Pf 5 (21, 5, 3, 0) := ⟨(RX5, TX5, 8), rfl, Nat.le_of_ble_eq_true rfl, (mm_t1 (w := .fieldLink RX5 21 "PondRings$Timetable" "weights" "[I") 151 (by decide +kernel) (by decide +kernel)), Or.inl rfl⟩
set_option maxRecDepth 20000 in
theorem mf_5_e5 : mm_Pf 5 (31, 5, 4, 3) := ⟨(RX5, TX5, 8), rfl, Nat.le_of_ble_eq_true rfl, (mm_t1 (w := .fieldLink RX5 31 "PondRings$Timetable" "planned" "Z") 152 (by decide +kernel) (by decide +kernel)), Or.inr ⟨rfl, by decide +kernel⟩⟩
set_option maxRecDepth 20000 in
theorem mf_5_e6 : mm_Pf 5 (25, 5, 5, 0) := ⟨(RX5, TX5, 8), rfl, Nat.le_of_ble_eq_true rfl, (mm_t1 (w := .fieldLink RX5 25 "PondRings$Timetable" "minutes" "[I") 153 (by decide +kernel) (by decide +kernel)), Or.inl rfl⟩
set_option maxRecDepth 20000 in
theorem mf_5_e7 : mm_Pf 5 (28, 5, 6, 0) := ⟨(RX5, TX5, 8), rfl, Nat.le_of_ble_eq_true rfl, (mm_t1 (w := .fieldLink RX5 28 "PondRings$Timetable" "plan" "[I") 155 (by decide +kernel) (by decide +kernel)), Or.inl rfl⟩
set_option maxRecDepth 20000 in
theorem mf_5_e8 : mm_Pf 5 (87, 5, 7, 1) := ⟨(RX5, TX5, 8), rfl, Nat.le_of_ble_eq_true rfl, (mm_t1 (w := .fieldLink RX5 87 "PondRings$Timetable" "lastOfPlan" "I") 157 (by decide +kernel) (by decide +kernel)), Or.inr ⟨rfl, by decide +kernel⟩⟩
theorem mf_5 : ∀ e ∈ mm_fT_5, mm_Pf 5 e := List.forall_mem_cons.mpr ⟨mf_5_e0, List.forall_mem_cons.mpr ⟨mf_5_e1, List.forall_mem_cons.mpr ⟨mf_5_e2, List.forall_mem_cons.mpr ⟨mf_5_e3, List.forall_mem_cons.mpr ⟨mf_5_e4, List.forall_mem_cons.mpr ⟨mf_5_e5, List.forall_mem_cons.mpr ⟨mf_5_e6, List.forall_mem_cons.mpr ⟨mf_5_e7, List.forall_mem_cons.mpr ⟨mf_5_e8, fun _ h => absurd h List.not_mem_nil⟩⟩⟩⟩⟩⟩⟩⟩⟩
set_option maxRecDepth 20000 in
theorem mf_6_e0 : mm_Pf 6 (224, 4, 0, 0) := ⟨(RX4, TX4, 4), rfl, Nat.le_of_ble_eq_true rfl, (mm_t1 (w := .fieldLink RX6 224 "PondRings$Sheet" "numbers" "[I") 31 (by decide +kernel) (by decide +kernel)), Or.inl rfl⟩
set_option maxRecDepth 20000 in
theorem mf_6_e1 : mm_Pf 6 (86, 4, 1, 3) := ⟨(RX4, TX4, 4), rfl, Nat.le_of_ble_eq_true rfl, (mm_t1 (w := .fieldLink RX6 86 "PondRings$Sheet" "there" "Z") 33 (by decide +kernel) (by decide +kernel)), Or.inr ⟨rfl, by decide +kernel⟩⟩
set_option maxRecDepth 20000 in
theorem mf_6_e2 : mm_Pf 6 (227, 4, 2, 1) := ⟨(RX4, TX4, 4), rfl, Nat.le_of_ble_eq_true rfl, (mm_t1 (w := .fieldLink RX6 227 "PondRings$Sheet" "sort" "I") 35 (by decide +kernel) (by decide +kernel)), Or.inr ⟨rfl, by decide +kernel⟩⟩
set_option maxRecDepth 20000 in
theorem mf_6_e3 : mm_Pf 6 (98, 3, 0, 1) := ⟨(RX3, TX3, 3), rfl, Nat.le_of_ble_eq_true rfl, (mm_t1 (w := .fieldLink RX6 98 "PondRings$PondText" "high" "I") 54 (by decide +kernel) (by decide +kernel)), Or.inr ⟨rfl, by decide +kernel⟩⟩
set_option maxRecDepth 20000 in
theorem mf_6_e4 : mm_Pf 6 (101, 3, 1, 1) := ⟨(RX3, TX3, 3), rfl, Nat.le_of_ble_eq_true rfl, (mm_t1 (w := .fieldLink RX6 101 "PondRings$PondText" "wide" "I") 56 (by decide +kernel) (by decide +kernel)), Or.inr ⟨rfl, by decide +kernel⟩⟩
set_option maxRecDepth 20000 in
theorem mf_6_e5 : mm_Pf 6 (104, 3, 2, 2) := ⟨(RX3, TX3, 3), rfl, Nat.le_of_ble_eq_true rfl, (mm_t1 (w := .fieldLink RX6 104 "PondRings$PondText" "water" "J") 58 (by decide +kernel) (by decide +kernel)), Or.inr ⟨rfl, by decide +kernel⟩⟩
set_option maxRecDepth 20000 in
theorem mf_6_e6 : mm_Pf 6 (118, 2, 5, 1) := ⟨(RX2, TX2, 8), rfl, Nat.le_of_ble_eq_true rfl, (mm_t1 (w := .fieldLink RX6 118 "PondRings$Pond" "cells" "I") 78 (by decide +kernel) (by decide +kernel)), Or.inr ⟨rfl, by decide +kernel⟩⟩
set_option maxRecDepth 20000 in
theorem mf_6_e7 : mm_Pf 6 (251, 2, 6, 1) := ⟨(RX2, TX2, 8), rfl, Nat.le_of_ble_eq_true rfl, (mm_t1 (w := .fieldLink RX6 251 "PondRings$Pond" "wide" "I") 80 (by decide +kernel) (by decide +kernel)), Or.inr ⟨rfl, by decide +kernel⟩⟩
set_option maxRecDepth 20000 in
theorem mf_6_e8 : mm_Pf 6 (258, 2, 7, 2) := ⟨(RX2, TX2, 8), rfl, Nat.le_of_ble_eq_true rfl, (mm_t1 (w := .fieldLink RX6 258 "PondRings$Pond" "water" "J") 82 (by decide +kernel) (by decide +kernel)), Or.inr ⟨rfl, by decide +kernel⟩⟩
set_option maxRecDepth 20000 in
theorem mf_6_e9 : mm_Pf 6 (142, 0, 0, 0) := ⟨(RX0, TX0, 4), rfl, Nat.le_of_ble_eq_true rfl, (mm_t1 (w := .fieldLink RX6 142 "PondRings$Listing" "kinds" "[I") 108 (by decide +kernel) (by decide +kernel)), Or.inl rfl⟩
set_option maxRecDepth 20000 in
theorem mf_6_e10 : mm_Pf 6 (145, 0, 1, 0) := ⟨(RX0, TX0, 4), rfl, Nat.le_of_ble_eq_true rfl, (mm_t1 (w := .fieldLink RX6 145 "PondRings$Listing" "places" "[I") 112 (by decide +kernel) (by decide +kernel)), Or.inl rfl⟩
set_option maxRecDepth 20000 in
theorem mf_6_e11 : mm_Pf 6 (148, 0, 2, 0) := ⟨(RX0, TX0, 4), rfl, Nat.le_of_ble_eq_true rfl, (mm_t1 (w := .fieldLink RX6 148 "PondRings$Listing" "minutes" "[I") 115 (by decide +kernel) (by decide +kernel)), Or.inl rfl⟩
set_option maxRecDepth 20000 in
theorem mf_6_e12 : mm_Pf 6 (112, 0, 3, 1) := ⟨(RX0, TX0, 4), rfl, Nat.le_of_ble_eq_true rfl, (mm_t1 (w := .fieldLink RX6 112 "PondRings$Listing" "count" "I") 117 (by decide +kernel) (by decide +kernel)), Or.inr ⟨rfl, by decide +kernel⟩⟩
set_option maxRecDepth 20000 in
theorem mf_6_e13 : mm_Pf 6 (170, 1, 0, 1) := ⟨(RX1, TX1, 2), rfl, Nat.le_of_ble_eq_true rfl, (mm_t1 (w := .fieldLink RX6 170 "PondRings$Meeting" "minute" "I") 134 (by decide +kernel) (by decide +kernel)), Or.inr ⟨rfl, by decide +kernel⟩⟩
set_option maxRecDepth 20000 in
theorem mf_6_e14 : mm_Pf 6 (173, 1, 1, 1) := ⟨(RX1, TX1, 2), rfl, Nat.le_of_ble_eq_true rfl, (mm_t1 (w := .fieldLink RX6 173 "PondRings$Meeting" "place" "I") 136 (by decide +kernel) (by decide +kernel)), Or.inr ⟨rfl, by decide +kernel⟩⟩
set_option maxRecDepth 20000 in
theorem mf_6_e15 : mm_Pf 6 (199, 5, 5, 0) := ⟨(RX5, TX5, 8), rfl, Nat.le_of_ble_eq_true rfl, (mm_t1 (w := .fieldLink RX6 199 "PondRings$Timetable" "minutes" "[I") 154 (by decide +kernel) (by decide +kernel)), Or.inl rfl⟩
set_option maxRecDepth 20000 in
theorem mf_6_e16 : mm_Pf 6 (193, 5, 6, 0) := ⟨(RX5, TX5, 8), rfl, Nat.le_of_ble_eq_true rfl, (mm_t1 (w := .fieldLink RX6 193 "PondRings$Timetable" "plan" "[I") 156 (by decide +kernel) (by decide +kernel)), Or.inl rfl⟩
set_option maxRecDepth 20000 in
theorem mf_6_e17 : mm_Pf 6 (190, 5, 7, 1) := ⟨(RX5, TX5, 8), rfl, Nat.le_of_ble_eq_true rfl, (mm_t1 (w := .fieldLink RX6 190 "PondRings$Timetable" "lastOfPlan" "I") 158 (by decide +kernel) (by decide +kernel)), Or.inr ⟨rfl, by decide +kernel⟩⟩
set_option maxRecDepth 20000 in
theorem mf_6_e18 : mm_Pf 6 (13, 6, 0, 0) := ⟨(RX6, TX6, 11), rfl, Nat.le_of_ble_eq_true rfl, (mm_t1 (w := .fieldLink RX6 13 "PondRings" "sheets" "[LPondRings$Sheet;") 176 (by decide +kernel) (by decide +kernel)), Or.inl rfl⟩
set_option maxRecDepth 20000 in
theorem mf_6_e19 : mm_Pf 6 (21, 6, 1, 0) := ⟨(RX6, TX6, 11), rfl, Nat.le_of_ble_eq_true rfl, (mm_t1 (w := .fieldLink RX6 21 "PondRings" "text" "LPondRings$PondText;") 177 (by decide +kernel) (by decide +kernel)), Or.inl rfl⟩
set_option maxRecDepth 20000 in
theorem mf_6_e20 : mm_Pf 6 (28, 6, 2, 0) := ⟨(RX6, TX6, 11), rfl, Nat.le_of_ble_eq_true rfl, (mm_t1 (w := .fieldLink RX6 28 "PondRings" "lake" "LPondRings$Pond;") 178 (by decide +kernel) (by decide +kernel)), Or.inl rfl⟩
set_option maxRecDepth 20000 in
theorem mf_6_e21 : mm_Pf 6 (37, 6, 3, 0) := ⟨(RX6, TX6, 11), rfl, Nat.le_of_ble_eq_true rfl, (mm_t1 (w := .fieldLink RX6 37 "PondRings" "stones" "LPondRings$Listing;") 179 (by decide +kernel) (by decide +kernel)), Or.inl rfl⟩
set_option maxRecDepth 20000 in
theorem mf_6_e22 : mm_Pf 6 (41, 6, 4, 0) := ⟨(RX6, TX6, 11), rfl, Nat.le_of_ble_eq_true rfl, (mm_t1 (w := .fieldLink RX6 41 "PondRings" "wishes" "LPondRings$Listing;") 180 (by decide +kernel) (by decide +kernel)), Or.inl rfl⟩
set_option maxRecDepth 20000 in
theorem mf_6_e23 : mm_Pf 6 (44, 6, 5, 0) := ⟨(RX6, TX6, 11), rfl, Nat.le_of_ble_eq_true rfl, (mm_t1 (w := .fieldLink RX6 44 "PondRings" "reeds" "LPondRings$Listing;") 181 (by decide +kernel) (by decide +kernel)), Or.inl rfl⟩
set_option maxRecDepth 20000 in
theorem mf_6_e24 : mm_Pf 6 (50, 6, 6, 0) := ⟨(RX6, TX6, 11), rfl, Nat.le_of_ble_eq_true rfl, (mm_t1 (w := .fieldLink RX6 50 "PondRings" "meeting" "LPondRings$Meeting;") 182 (by decide +kernel) (by decide +kernel)), Or.inl rfl⟩
set_option maxRecDepth 20000 in
theorem mf_6_e25 : mm_Pf 6 (57, 6, 7, 0) := ⟨(RX6, TX6, 11), rfl, Nat.le_of_ble_eq_true rfl, (mm_t1 (w := .fieldLink RX6 57 "PondRings" "timetable" "LPondRings$Timetable;") 183 (by decide +kernel) (by decide +kernel)), Or.inl rfl⟩
set_option maxRecDepth 20000 in
theorem mf_6_e26 : mm_Pf 6 (61, 6, 8, 0) := ⟨(RX6, TX6, 11), rfl, Nat.le_of_ble_eq_true rfl, (mm_t1 (w := .fieldLink RX6 61 "PondRings" "clashes" "[I") 184 (by decide +kernel) (by decide +kernel)), Or.inl rfl⟩
set_option maxRecDepth 20000 in
theorem mf_6_e27 : mm_Pf 6 (65, 6, 9, 1) := ⟨(RX6, TX6, 11), rfl, Nat.le_of_ble_eq_true rfl, (mm_t1 (w := .fieldLink RX6 65 "PondRings" "traced" "I") 185 (by decide +kernel) (by decide +kernel)), Or.inr ⟨rfl, by decide +kernel⟩⟩
set_option maxRecDepth 20000 in
theorem mf_6_e28 : mm_Pf 6 (69, 6, 10, 1) := ⟨(RX6, TX6, 11), rfl, Nat.le_of_ble_eq_true rfl, (mm_t1 (w := .fieldLink RX6 69 "PondRings" "latestFault" "I") 186 (by decide +kernel) (by decide +kernel)), Or.inr ⟨rfl, by decide +kernel⟩⟩
theorem mf_6 : ∀ e ∈ mm_fT_6, mm_Pf 6 e := List.forall_mem_cons.mpr ⟨mf_6_e0, List.forall_mem_cons.mpr ⟨mf_6_e1, List.forall_mem_cons.mpr ⟨mf_6_e2, List.forall_mem_cons.mpr ⟨mf_6_e3, List.forall_mem_cons.mpr ⟨mf_6_e4, List.forall_mem_cons.mpr ⟨mf_6_e5, List.forall_mem_cons.mpr ⟨mf_6_e6, List.forall_mem_cons.mpr ⟨mf_6_e7, List.forall_mem_cons.mpr ⟨mf_6_e8, List.forall_mem_cons.mpr ⟨mf_6_e9, List.forall_mem_cons.mpr ⟨mf_6_e10, List.forall_mem_cons.mpr ⟨mf_6_e11, List.forall_mem_cons.mpr ⟨mf_6_e12, List.forall_mem_cons.mpr ⟨mf_6_e13, List.forall_mem_cons.mpr ⟨mf_6_e14, List.forall_mem_cons.mpr ⟨mf_6_e15, List.forall_mem_cons.mpr ⟨mf_6_e16, List.forall_mem_cons.mpr ⟨mf_6_e17, List.forall_mem_cons.mpr ⟨mf_6_e18, List.forall_mem_cons.mpr ⟨mf_6_e19, List.forall_mem_cons.mpr ⟨mf_6_e20, List.forall_mem_cons.mpr ⟨mf_6_e21, List.forall_mem_cons.mpr ⟨mf_6_e22, List.forall_mem_cons.mpr ⟨mf_6_e23, List.forall_mem_cons.mpr ⟨mf_6_e24, List.forall_mem_cons.mpr ⟨mf_6_e25, List.forall_mem_cons.mpr ⟨mf_6_e26, List.forall_mem_cons.mpr ⟨mf_6_e27, List.forall_mem_cons.mpr ⟨mf_6_e28, fun _ h => absurd h List.not_mem_nil⟩⟩⟩⟩⟩⟩⟩⟩⟩⟩⟩⟩⟩⟩⟩⟩⟩⟩⟩⟩⟩⟩⟩⟩⟩⟩⟩⟩⟩
set_option maxRecDepth 20000 in
theorem mf_7_e0 : mm_Pf 7 (56, 7, 0, 1) := ⟨(RX7, TX7, 28), rfl, Nat.le_of_ble_eq_true rfl, (mm_t3 (w := .fieldLink RX7 56 "PondRingsModel" "fault" "I") 138 (by decide +kernel) (by decide +kernel)), Or.inr ⟨rfl, by decide +kernel⟩⟩
set_option maxRecDepth 20000 in
theorem mf_7_e1 : mm_Pf 7 (207, 7, 1, 1) := ⟨(RX7, TX7, 28), rfl, Nat.le_of_ble_eq_true rfl, (mm_t3 (w := .fieldLink RX7 207 "PondRingsModel" "trace" "I") 139 (by decide +kernel) (by decide +kernel)), Or.inr ⟨rfl, by decide +kernel⟩⟩
set_option maxRecDepth 20000 in
theorem mf_7_e2 : mm_Pf 7 (9, 7, 2, 0) := ⟨(RX7, TX7, 28), rfl, Nat.le_of_ble_eq_true rfl, (mm_t3 (w := .fieldLink RX7 9 "PondRingsModel" "sorts" "[I") 140 (by decide +kernel) (by decide +kernel)), Or.inl rfl⟩
set_option maxRecDepth 20000 in
theorem mf_7_e3 : mm_Pf 7 (13, 7, 3, 0) := ⟨(RX7, TX7, 28), rfl, Nat.le_of_ble_eq_true rfl, (mm_t3 (w := .fieldLink RX7 13 "PondRingsModel" "sheetLong" "[I") 141 (by decide +kernel) (by decide +kernel)), Or.inl rfl⟩
set_option maxRecDepth 20000 in
theorem mf_7_e4 : mm_Pf 7 (16, 7, 4, 0) := ⟨(RX7, TX7, 28), rfl, Nat.le_of_ble_eq_true rfl, (mm_t3 (w := .fieldLink RX7 16 "PondRingsModel" "cells" "[I") 142 (by decide +kernel) (by decide +kernel)), Or.inl rfl⟩
set_option maxRecDepth 20000 in
theorem mf_7_e5 : mm_Pf 7 (66, 7, 5, 1) := ⟨(RX7, TX7, 28), rfl, Nat.le_of_ble_eq_true rfl, (mm_t3 (w := .fieldLink RX7 66 "PondRingsModel" "high" "I") 143 (by decide +kernel) (by decide +kernel)), Or.inr ⟨rfl, by decide +kernel⟩⟩
set_option maxRecDepth 20000 in
theorem mf_7_e6 : mm_Pf 7 (69, 7, 6, 1) := ⟨(RX7, TX7, 28), rfl, Nat.le_of_ble_eq_true rfl, (mm_t3 (w := .fieldLink RX7 69 "PondRingsModel" "wide" "I") 144 (by decide +kernel) (by decide +kernel)), Or.inr ⟨rfl, by decide +kernel⟩⟩
set_option maxRecDepth 20000 in
theorem mf_7_e7 : mm_Pf 7 (19, 7, 7, 0) := ⟨(RX7, TX7, 28), rfl, Nat.le_of_ble_eq_true rfl, (mm_t3 (w := .fieldLink RX7 19 "PondRingsModel" "isWater" "[Z") 145 (by decide +kernel) (by decide +kernel)), Or.inl rfl⟩
set_option maxRecDepth 20000 in
theorem mf_7_e8 : mm_Pf 7 (23, 7, 8, 0) := ⟨(RX7, TX7, 28), rfl, Nat.le_of_ble_eq_true rfl, (mm_t3 (w := .fieldLink RX7 23 "PondRingsModel" "ways" "[I") 146 (by decide +kernel) (by decide +kernel)), Or.inl rfl⟩
set_option maxRecDepth 20000 in
theorem mf_7_e9 : mm_Pf 7 (76, 7, 9, 1) := ⟨(RX7, TX7, 28), rfl, Nat.le_of_ble_eq_true rfl, (mm_t3 (w := .fieldLink RX7 76 "PondRingsModel" "at" "I") 147 (by decide +kernel) (by decide +kernel)), Or.inr ⟨rfl, by decide +kernel⟩⟩
set_option maxRecDepth 20000 in
theorem mf_7_e10 : mm_Pf 7 (97, 7, 10, 1) := ⟨(RX7, TX7, 28), rfl, Nat.le_of_ble_eq_true rfl, (mm_t3 (w := .fieldLink RX7 97 "PondRingsModel" "readHigh" "I") 148 (by decide +kernel) (by decide +kernel)), Or.inr ⟨rfl, by decide +kernel⟩⟩
set_option maxRecDepth 20000 in
theorem mf_7_e11 : mm_Pf 7 (100, 7, 11, 1) := ⟨(RX7, TX7, 28), rfl, Nat.le_of_ble_eq_true rfl, (mm_t3 (w := .fieldLink RX7 100 "PondRingsModel" "readWide" "I") 149 (by decide +kernel) (by decide +kernel)), Or.inr ⟨rfl, by decide +kernel⟩⟩
set_option maxRecDepth 20000 in
theorem mf_7_e12 : mm_Pf 7 (26, 7, 12, 0) := ⟨(RX7, TX7, 28), rfl, Nat.le_of_ble_eq_true rfl, (mm_t3 (w := .fieldLink RX7 26 "PondRingsModel" "readWater" "[Z") 150 (by decide +kernel) (by decide +kernel)), Or.inl rfl⟩
set_option maxRecDepth 20000 in
theorem mf_7_e13 : mm_Pf 7 (106, 7, 13, 1) := ⟨(RX7, TX7, 28), rfl, Nat.le_of_ble_eq_true rfl, (mm_t3 (w := .fieldLink RX7 106 "PondRingsModel" "stones" "I") 151 (by decide +kernel) (by decide +kernel)), Or.inr ⟨rfl, by decide +kernel⟩⟩
set_option maxRecDepth 20000 in
theorem mf_7_e14 : mm_Pf 7 (29, 7, 14, 0) := ⟨(RX7, TX7, 28), rfl, Nat.le_of_ble_eq_true rfl, (mm_t3 (w := .fieldLink RX7 29 "PondRingsModel" "stoneKind" "[I") 152 (by decide +kernel) (by decide +kernel)), Or.inl rfl⟩
set_option maxRecDepth 20000 in
theorem mf_7_e15 : mm_Pf 7 (32, 7, 15, 0) := ⟨(RX7, TX7, 28), rfl, Nat.le_of_ble_eq_true rfl, (mm_t3 (w := .fieldLink RX7 32 "PondRingsModel" "stoneCell" "[I") 153 (by decide +kernel) (by decide +kernel)), Or.inl rfl⟩
set_option maxRecDepth 20000 in
theorem mf_7_e16 : mm_Pf 7 (35, 7, 16, 0) := ⟨(RX7, TX7, 28), rfl, Nat.le_of_ble_eq_true rfl, (mm_t3 (w := .fieldLink RX7 35 "PondRingsModel" "stoneMinute" "[I") 154 (by decide +kernel) (by decide +kernel)), Or.inl rfl⟩
set_option maxRecDepth 20000 in
theorem mf_7_e17 : mm_Pf 7 (145, 7, 17, 1) := ⟨(RX7, TX7, 28), rfl, Nat.le_of_ble_eq_true rfl, (mm_t3 (w := .fieldLink RX7 145 "PondRingsModel" "metMinute" "I") 155 (by decide +kernel) (by decide +kernel)), Or.inr ⟨rfl, by decide +kernel⟩⟩
set_option maxRecDepth 20000 in
theorem mf_7_e18 : mm_Pf 7 (152, 7, 18, 1) := ⟨(RX7, TX7, 28), rfl, Nat.le_of_ble_eq_true rfl, (mm_t3 (w := .fieldLink RX7 152 "PondRingsModel" "metCell" "I") 156 (by decide +kernel) (by decide +kernel)), Or.inr ⟨rfl, by decide +kernel⟩⟩
set_option maxRecDepth 20000 in
theorem mf_7_e19 : mm_Pf 7 (148, 7, 19, 3) := ⟨(RX7, TX7, 28), rfl, Nat.le_of_ble_eq_true rfl, (mm_t3 (w := .fieldLink RX7 148 "PondRingsModel" "isAtOne" "Z") 157 (by decide +kernel) (by decide +kernel)), Or.inr ⟨rfl, by decide +kernel⟩⟩
set_option maxRecDepth 20000 in
theorem mf_7_e20 : mm_Pf 7 (109, 7, 20, 1) := ⟨(RX7, TX7, 28), rfl, Nat.le_of_ble_eq_true rfl, (mm_t3 (w := .fieldLink RX7 109 "PondRingsModel" "wishes" "I") 158 (by decide +kernel) (by decide +kernel)), Or.inr ⟨rfl, by decide +kernel⟩⟩
set_option maxRecDepth 20000 in
theorem mf_7_e21 : mm_Pf 7 (38, 7, 21, 0) := ⟨(RX7, TX7, 28), rfl, Nat.le_of_ble_eq_true rfl, (mm_t3 (w := .fieldLink RX7 38 "PondRingsModel" "wishKind" "[I") 159 (by decide +kernel) (by decide +kernel)), Or.inl rfl⟩
set_option maxRecDepth 20000 in
theorem mf_7_e22 : mm_Pf 7 (41, 7, 22, 0) := ⟨(RX7, TX7, 28), rfl, Nat.le_of_ble_eq_true rfl, (mm_t3 (w := .fieldLink RX7 41 "PondRingsModel" "wishCell" "[I") 160 (by decide +kernel) (by decide +kernel)), Or.inl rfl⟩
set_option maxRecDepth 20000 in
theorem mf_7_e23 : mm_Pf 7 (44, 7, 23, 0) := ⟨(RX7, TX7, 28), rfl, Nat.le_of_ble_eq_true rfl, (mm_t3 (w := .fieldLink RX7 44 "PondRingsModel" "doMeet" "[Z") 161 (by decide +kernel) (by decide +kernel)), Or.inl rfl⟩
set_option maxRecDepth 20000 in
theorem mf_7_e24 : mm_Pf 7 (47, 7, 24, 0) := ⟨(RX7, TX7, 28), rfl, Nat.le_of_ble_eq_true rfl, (mm_t3 (w := .fieldLink RX7 47 "PondRingsModel" "minutes" "[I") 162 (by decide +kernel) (by decide +kernel)), Or.inl rfl⟩
set_option maxRecDepth 20000 in
theorem mf_7_e25 : mm_Pf 7 (112, 7, 25, 1) := ⟨(RX7, TX7, 28), rfl, Nat.le_of_ble_eq_true rfl, (mm_t3 (w := .fieldLink RX7 112 "PondRingsModel" "reeds" "I") 163 (by decide +kernel) (by decide +kernel)), Or.inr ⟨rfl, by decide +kernel⟩⟩
set_option maxRecDepth 20000 in
theorem mf_7_e26 : mm_Pf 7 (50, 7, 26, 0) := ⟨(RX7, TX7, 28), rfl, Nat.le_of_ble_eq_true rfl, (mm_t3 (w := .fieldLink RX7 50 "PondRingsModel" "reedCell" "[I") 164 (by decide +kernel) (by decide +kernel)), Or.inl rfl⟩
set_option maxRecDepth 20000 in
theorem mf_7_e27 : mm_Pf 7 (53, 7, 27, 0) := ⟨(RX7, TX7, 28), rfl, Nat.le_of_ble_eq_true rfl, (mm_t3 (w := .fieldLink RX7 53 "PondRingsModel" "reedMinute" "[I") 165 (by decide +kernel) (by decide +kernel)), Or.inl rfl⟩
theorem mf_7 : ∀ e ∈ mm_fT_7, mm_Pf 7 e := List.forall_mem_cons.mpr ⟨mf_7_e0, List.forall_mem_cons.mpr ⟨mf_7_e1, List.forall_mem_cons.mpr ⟨mf_7_e2, List.forall_mem_cons.mpr ⟨mf_7_e3, List.forall_mem_cons.mpr ⟨mf_7_e4, List.forall_mem_cons.mpr ⟨mf_7_e5, List.forall_mem_cons.mpr ⟨mf_7_e6, List.forall_mem_cons.mpr ⟨mf_7_e7, List.forall_mem_cons.mpr ⟨mf_7_e8, List.forall_mem_cons.mpr ⟨mf_7_e9, List.forall_mem_cons.mpr ⟨mf_7_e10, List.forall_mem_cons.mpr ⟨mf_7_e11, List.forall_mem_cons.mpr ⟨mf_7_e12, List.forall_mem_cons.mpr ⟨mf_7_e13, List.forall_mem_cons.mpr ⟨mf_7_e14, List.forall_mem_cons.mpr ⟨mf_7_e15, List.forall_mem_cons.mpr ⟨mf_7_e16, List.forall_mem_cons.mpr ⟨mf_7_e17, List.forall_mem_cons.mpr ⟨mf_7_e18, List.forall_mem_cons.mpr ⟨mf_7_e19, List.forall_mem_cons.mpr ⟨mf_7_e20, List.forall_mem_cons.mpr ⟨mf_7_e21, List.forall_mem_cons.mpr ⟨mf_7_e22, List.forall_mem_cons.mpr ⟨mf_7_e23, List.forall_mem_cons.mpr ⟨mf_7_e24, List.forall_mem_cons.mpr ⟨mf_7_e25, List.forall_mem_cons.mpr ⟨mf_7_e26, List.forall_mem_cons.mpr ⟨mf_7_e27, fun _ h => absurd h List.not_mem_nil⟩⟩⟩⟩⟩⟩⟩⟩⟩⟩⟩⟩⟩⟩⟩⟩⟩⟩⟩⟩⟩⟩⟩⟩⟩⟩⟩⟩
theorem mf_8 : ∀ e ∈ mm_fT_8, mm_Pf 8 e := fun _ h => absurd h List.not_mem_nil
set_option maxRecDepth 20000 in
theorem mu_0_0 : u_lay RX0 TX0 0 ∈ mm_TB := (mm_t1 (w := u_lay RX0 TX0 0) 118 (by decide +kernel) (by decide +kernel))
set_option maxRecDepth 20000 in
theorem mu_0_1 : u_lay RX0 TX0 1 ∈ mm_TB := (mm_t1 (w := u_lay RX0 TX0 1) 120 (by decide +kernel) (by decide +kernel))
set_option maxRecDepth 20000 in
theorem mu_0_2 : u_lay RX0 TX0 2 ∈ mm_TB := (mm_t1 (w := u_lay RX0 TX0 2) 122 (by decide +kernel) (by decide +kernel))
set_option maxRecDepth 20000 in
theorem mu_0_3 : u_lay RX0 TX0 3 ∈ mm_TB := (mm_t1 (w := u_lay RX0 TX0 3) 124 (by decide +kernel) (by decide +kernel))
theorem mu_0 : ∀ w ∈ u_ws RX0 TX0 4, w ∈ mm_TB := by
  intro w hw
  obtain ⟨k, hk, rfl⟩ := List.mem_map.mp hw
  have hk := List.mem_range.mp hk
  match k, hk with
  | 0, _ => exact mu_0_0
  | 1, _ => exact mu_0_1
  | 2, _ => exact mu_0_2
  | 3, _ => exact mu_0_3
  | k + 4, hk => exact absurd hk (by omega)
set_option maxRecDepth 20000 in
theorem mu_1_0 : u_lay RX1 TX1 0 ∈ mm_TB := (mm_t1 (w := u_lay RX1 TX1 0) 137 (by decide +kernel) (by decide +kernel))
set_option maxRecDepth 20000 in
theorem mu_1_1 : u_lay RX1 TX1 1 ∈ mm_TB := (mm_t1 (w := u_lay RX1 TX1 1) 139 (by decide +kernel) (by decide +kernel))
theorem mu_1 : ∀ w ∈ u_ws RX1 TX1 2, w ∈ mm_TB := by
  intro w hw
  obtain ⟨k, hk, rfl⟩ := List.mem_map.mp hw
  have hk := List.mem_range.mp hk
  match k, hk with
  | 0, _ => exact mu_1_0
  | 1, _ => exact mu_1_1
  | k + 2, hk => exact absurd hk (by omega)
set_option maxRecDepth 20000 in
theorem mu_2_0 : u_lay RX2 TX2 0 ∈ mm_TB := (mm_t1 (w := u_lay RX2 TX2 0) 83 (by decide +kernel) (by decide +kernel))
set_option maxRecDepth 20000 in
theorem mu_2_1 : u_lay RX2 TX2 1 ∈ mm_TB := (mm_t1 (w := u_lay RX2 TX2 1) 85 (by decide +kernel) (by decide +kernel))
set_option maxRecDepth 20000 in
theorem mu_2_2 : u_lay RX2 TX2 2 ∈ mm_TB := (mm_t1 (w := u_lay RX2 TX2 2) 87 (by decide +kernel) (by decide +kernel))
set_option maxRecDepth 20000 in
theorem mu_2_3 : u_lay RX2 TX2 3 ∈ mm_TB := (mm_t1 (w := u_lay RX2 TX2 3) 89 (by decide +kernel) (by decide +kernel))
set_option maxRecDepth 20000 in
theorem mu_2_4 : u_lay RX2 TX2 4 ∈ mm_TB := (mm_t1 (w := u_lay RX2 TX2 4) 91 (by decide +kernel) (by decide +kernel))
set_option maxRecDepth 20000 in
theorem mu_2_5 : u_lay RX2 TX2 5 ∈ mm_TB := (mm_t1 (w := u_lay RX2 TX2 5) 93 (by decide +kernel) (by decide +kernel))
set_option maxRecDepth 20000 in
theorem mu_2_6 : u_lay RX2 TX2 6 ∈ mm_TB := (mm_t1 (w := u_lay RX2 TX2 6) 95 (by decide +kernel) (by decide +kernel))
set_option maxRecDepth 20000 in
theorem mu_2_7 : u_lay RX2 TX2 7 ∈ mm_TB := (mm_t1 (w := u_lay RX2 TX2 7) 97 (by decide +kernel) (by decide +kernel))
theorem mu_2 : ∀ w ∈ u_ws RX2 TX2 8, w ∈ mm_TB := by
  intro w hw
  obtain ⟨k, hk, rfl⟩ := List.mem_map.mp hw
  have hk := List.mem_range.mp hk
  match k, hk with
  | 0, _ => exact mu_2_0
  | 1, _ => exact mu_2_1
  | 2, _ => exact mu_2_2
  | 3, _ => exact mu_2_3
  | 4, _ => exact mu_2_4
  | 5, _ => exact mu_2_5
  | 6, _ => exact mu_2_6
  | 7, _ => exact mu_2_7
  | k + 8, hk => exact absurd hk (by omega)
set_option maxRecDepth 20000 in
theorem mu_3_0 : u_lay RX3 TX3 0 ∈ mm_TB := (mm_t1 (w := u_lay RX3 TX3 0) 59 (by decide +kernel) (by decide +kernel))
set_option maxRecDepth 20000 in
theorem mu_3_1 : u_lay RX3 TX3 1 ∈ mm_TB := (mm_t1 (w := u_lay RX3 TX3 1) 61 (by decide +kernel) (by decide +kernel))
set_option maxRecDepth 20000 in
theorem mu_3_2 : u_lay RX3 TX3 2 ∈ mm_TB := (mm_t1 (w := u_lay RX3 TX3 2) 63 (by decide +kernel) (by decide +kernel))
theorem mu_3 : ∀ w ∈ u_ws RX3 TX3 3, w ∈ mm_TB := by
  intro w hw
  obtain ⟨k, hk, rfl⟩ := List.mem_map.mp hw
  have hk := List.mem_range.mp hk
  match k, hk with
  | 0, _ => exact mu_3_0
  | 1, _ => exact mu_3_1
  | 2, _ => exact mu_3_2
  | k + 3, hk => exact absurd hk (by omega)
set_option maxRecDepth 20000 in
theorem mu_4_0 : u_lay RX4 TX4 0 ∈ mm_TB := (mm_t1 (w := u_lay RX4 TX4 0) 37 (by decide +kernel) (by decide +kernel))
set_option maxRecDepth 20000 in
theorem mu_4_1 : u_lay RX4 TX4 1 ∈ mm_TB := (mm_t1 (w := u_lay RX4 TX4 1) 39 (by decide +kernel) (by decide +kernel))
set_option maxRecDepth 20000 in
theorem mu_4_2 : u_lay RX4 TX4 2 ∈ mm_TB := (mm_t1 (w := u_lay RX4 TX4 2) 41 (by decide +kernel) (by decide +kernel))
set_option maxRecDepth 20000 in
theorem mu_4_3 : u_lay RX4 TX4 3 ∈ mm_TB := (mm_t1 (w := u_lay RX4 TX4 3) 43 (by decide +kernel) (by decide +kernel))
theorem mu_4 : ∀ w ∈ u_ws RX4 TX4 4, w ∈ mm_TB := by
  intro w hw
  obtain ⟨k, hk, rfl⟩ := List.mem_map.mp hw
  have hk := List.mem_range.mp hk
  match k, hk with
  | 0, _ => exact mu_4_0
  | 1, _ => exact mu_4_1
  | 2, _ => exact mu_4_2
  | 3, _ => exact mu_4_3
  | k + 4, hk => exact absurd hk (by omega)
set_option maxRecDepth 20000 in
theorem mu_5_0 : u_lay RX5 TX5 0 ∈ mm_TB := (mm_t1 (w := u_lay RX5 TX5 0) 159 (by decide +kernel) (by decide +kernel))
set_option maxRecDepth 20000 in
theorem mu_5_1 : u_lay RX5 TX5 1 ∈ mm_TB := (mm_t1 (w := u_lay RX5 TX5 1) 161 (by decide +kernel) (by decide +kernel))
set_option maxRecDepth 20000 in
theorem mu_5_2 : u_lay RX5 TX5 2 ∈ mm_TB := (mm_t1 (w := u_lay RX5 TX5 2) 163 (by decide +kernel) (by decide +kernel))
set_option maxRecDepth 20000 in
theorem mu_5_3 : u_lay RX5 TX5 3 ∈ mm_TB := (mm_t1 (w := u_lay RX5 TX5 3) 165 (by decide +kernel) (by decide +kernel))
set_option maxRecDepth 20000 in
theorem mu_5_4 : u_lay RX5 TX5 4 ∈ mm_TB := (mm_t1 (w := u_lay RX5 TX5 4) 167 (by decide +kernel) (by decide +kernel))
set_option maxRecDepth 20000 in
theorem mu_5_5 : u_lay RX5 TX5 5 ∈ mm_TB := (mm_t1 (w := u_lay RX5 TX5 5) 169 (by decide +kernel) (by decide +kernel))
set_option maxRecDepth 20000 in
theorem mu_5_6 : u_lay RX5 TX5 6 ∈ mm_TB := (mm_t1 (w := u_lay RX5 TX5 6) 171 (by decide +kernel) (by decide +kernel))
set_option maxRecDepth 20000 in
theorem mu_5_7 : u_lay RX5 TX5 7 ∈ mm_TB := (mm_t1 (w := u_lay RX5 TX5 7) 173 (by decide +kernel) (by decide +kernel))
theorem mu_5 : ∀ w ∈ u_ws RX5 TX5 8, w ∈ mm_TB := by
  intro w hw
  obtain ⟨k, hk, rfl⟩ := List.mem_map.mp hw
  have hk := List.mem_range.mp hk
  match k, hk with
  | 0, _ => exact mu_5_0
  | 1, _ => exact mu_5_1
  | 2, _ => exact mu_5_2
  | 3, _ => exact mu_5_3
  | 4, _ => exact mu_5_4
  | 5, _ => exact mu_5_5
  | 6, _ => exact mu_5_6
  | 7, _ => exact mu_5_7
  | k + 8, hk => exact absurd hk (by omega)
set_option maxRecDepth 20000 in
theorem mu_6_0 : u_lay RX6 TX6 0 ∈ mm_TB := (mm_t1 (w := u_lay RX6 TX6 0) 187 (by decide +kernel) (by decide +kernel))
set_option maxRecDepth 20000 in
theorem mu_6_1 : u_lay RX6 TX6 1 ∈ mm_TB := (mm_t1 (w := u_lay RX6 TX6 1) 189 (by decide +kernel) (by decide +kernel))
set_option maxRecDepth 20000 in
theorem mu_6_2 : u_lay RX6 TX6 2 ∈ mm_TB := (mm_t1 (w := u_lay RX6 TX6 2) 191 (by decide +kernel) (by decide +kernel))
set_option maxRecDepth 20000 in
theorem mu_6_3 : u_lay RX6 TX6 3 ∈ mm_TB := (mm_t1 (w := u_lay RX6 TX6 3) 193 (by decide +kernel) (by decide +kernel))
set_option maxRecDepth 20000 in
theorem mu_6_4 : u_lay RX6 TX6 4 ∈ mm_TB := (mm_t1 (w := u_lay RX6 TX6 4) 195 (by decide +kernel) (by decide +kernel))
set_option maxRecDepth 20000 in
theorem mu_6_5 : u_lay RX6 TX6 5 ∈ mm_TB := (mm_t1 (w := u_lay RX6 TX6 5) 197 (by decide +kernel) (by decide +kernel))
set_option maxRecDepth 20000 in
theorem mu_6_6 : u_lay RX6 TX6 6 ∈ mm_TB := (mm_t1 (w := u_lay RX6 TX6 6) 199 (by decide +kernel) (by decide +kernel))
set_option maxRecDepth 20000 in
theorem mu_6_7 : u_lay RX6 TX6 7 ∈ mm_TB := (mm_t1 (w := u_lay RX6 TX6 7) 201 (by decide +kernel) (by decide +kernel))
set_option maxRecDepth 20000 in
theorem mu_6_8 : u_lay RX6 TX6 8 ∈ mm_TB := (mm_t1 (w := u_lay RX6 TX6 8) 203 (by decide +kernel) (by decide +kernel))
set_option maxRecDepth 20000 in
theorem mu_6_9 : u_lay RX6 TX6 9 ∈ mm_TB := (mm_t1 (w := u_lay RX6 TX6 9) 205 (by decide +kernel) (by decide +kernel))
set_option maxRecDepth 20000 in
theorem mu_6_10 : u_lay RX6 TX6 10 ∈ mm_TB := (mm_t1 (w := u_lay RX6 TX6 10) 207 (by decide +kernel) (by decide +kernel))
theorem mu_6 : ∀ w ∈ u_ws RX6 TX6 11, w ∈ mm_TB := by
  intro w hw
  obtain ⟨k, hk, rfl⟩ := List.mem_map.mp hw
  have hk := List.mem_range.mp hk
  match k, hk with
  | 0, _ => exact mu_6_0
  | 1, _ => exact mu_6_1
  | 2, _ => exact mu_6_2
  | 3, _ => exact mu_6_3
  | 4, _ => exact mu_6_4
  | 5, _ => exact mu_6_5
  | 6, _ => exact mu_6_6
  | 7, _ => exact mu_6_7
  | 8, _ => exact mu_6_8
  | 9, _ => exact mu_6_9
  | 10, _ => exact mu_6_10
  | k + 11, hk => exact absurd hk (by omega)
set_option maxRecDepth 20000 in
theorem mu_7_0 : u_lay RX7 TX7 0 ∈ mm_TB := (mm_t3 (w := u_lay RX7 TX7 0) 166 (by decide +kernel) (by decide +kernel))
set_option maxRecDepth 20000 in
theorem mu_7_1 : u_lay RX7 TX7 1 ∈ mm_TB := (mm_t3 (w := u_lay RX7 TX7 1) 168 (by decide +kernel) (by decide +kernel))
set_option maxRecDepth 20000 in
theorem mu_7_2 : u_lay RX7 TX7 2 ∈ mm_TB := (mm_t3 (w := u_lay RX7 TX7 2) 170 (by decide +kernel) (by decide +kernel))
set_option maxRecDepth 20000 in
theorem mu_7_3 : u_lay RX7 TX7 3 ∈ mm_TB := (mm_t3 (w := u_lay RX7 TX7 3) 172 (by decide +kernel) (by decide +kernel))
set_option maxRecDepth 20000 in
theorem mu_7_4 : u_lay RX7 TX7 4 ∈ mm_TB := (mm_t3 (w := u_lay RX7 TX7 4) 174 (by decide +kernel) (by decide +kernel))
set_option maxRecDepth 20000 in
theorem mu_7_5 : u_lay RX7 TX7 5 ∈ mm_TB := (mm_t3 (w := u_lay RX7 TX7 5) 176 (by decide +kernel) (by decide +kernel))
set_option maxRecDepth 20000 in
theorem mu_7_6 : u_lay RX7 TX7 6 ∈ mm_TB := (mm_t3 (w := u_lay RX7 TX7 6) 178 (by decide +kernel) (by decide +kernel))
set_option maxRecDepth 20000 in
theorem mu_7_7 : u_lay RX7 TX7 7 ∈ mm_TB := (mm_t3 (w := u_lay RX7 TX7 7) 180 (by decide +kernel) (by decide +kernel))
set_option maxRecDepth 20000 in
theorem mu_7_8 : u_lay RX7 TX7 8 ∈ mm_TB := (mm_t3 (w := u_lay RX7 TX7 8) 182 (by decide +kernel) (by decide +kernel))
set_option maxRecDepth 20000 in
theorem mu_7_9 : u_lay RX7 TX7 9 ∈ mm_TB := (mm_t3 (w := u_lay RX7 TX7 9) 184 (by decide +kernel) (by decide +kernel))
set_option maxRecDepth 20000 in
theorem mu_7_10 : u_lay RX7 TX7 10 ∈ mm_TB := (mm_t3 (w := u_lay RX7 TX7 10) 186 (by decide +kernel) (by decide +kernel))
set_option maxRecDepth 20000 in
theorem mu_7_11 : u_lay RX7 TX7 11 ∈ mm_TB := (mm_t3 (w := u_lay RX7 TX7 11) 188 (by decide +kernel) (by decide +kernel))
set_option maxRecDepth 20000 in
theorem mu_7_12 : u_lay RX7 TX7 12 ∈ mm_TB := (mm_t3 (w := u_lay RX7 TX7 12) 190 (by decide +kernel) (by decide +kernel))
set_option maxRecDepth 20000 in
theorem mu_7_13 : u_lay RX7 TX7 13 ∈ mm_TB := (mm_t3 (w := u_lay RX7 TX7 13) 192 (by decide +kernel) (by decide +kernel))
set_option maxRecDepth 20000 in
theorem mu_7_14 : u_lay RX7 TX7 14 ∈ mm_TB := (mm_t3 (w := u_lay RX7 TX7 14) 194 (by decide +kernel) (by decide +kernel))
set_option maxRecDepth 20000 in
theorem mu_7_15 : u_lay RX7 TX7 15 ∈ mm_TB := (mm_t3 (w := u_lay RX7 TX7 15) 196 (by decide +kernel) (by decide +kernel))
set_option maxRecDepth 20000 in
theorem mu_7_16 : u_lay RX7 TX7 16 ∈ mm_TB := (mm_t3 (w := u_lay RX7 TX7 16) 198 (by decide +kernel) (by decide +kernel))
set_option maxRecDepth 20000 in
theorem mu_7_17 : u_lay RX7 TX7 17 ∈ mm_TB := (mm_t3 (w := u_lay RX7 TX7 17) 200 (by decide +kernel) (by decide +kernel))
set_option maxRecDepth 20000 in
theorem mu_7_18 : u_lay RX7 TX7 18 ∈ mm_TB := (mm_t3 (w := u_lay RX7 TX7 18) 202 (by decide +kernel) (by decide +kernel))
set_option maxRecDepth 20000 in
theorem mu_7_19 : u_lay RX7 TX7 19 ∈ mm_TB := (mm_t3 (w := u_lay RX7 TX7 19) 204 (by decide +kernel) (by decide +kernel))
set_option maxRecDepth 20000 in
theorem mu_7_20 : u_lay RX7 TX7 20 ∈ mm_TB := (mm_t3 (w := u_lay RX7 TX7 20) 206 (by decide +kernel) (by decide +kernel))
set_option maxRecDepth 20000 in
theorem mu_7_21 : u_lay RX7 TX7 21 ∈ mm_TB := (mm_t3 (w := u_lay RX7 TX7 21) 208 (by decide +kernel) (by decide +kernel))
set_option maxRecDepth 20000 in
theorem mu_7_22 : u_lay RX7 TX7 22 ∈ mm_TB := (mm_t3 (w := u_lay RX7 TX7 22) 210 (by decide +kernel) (by decide +kernel))
set_option maxRecDepth 20000 in
theorem mu_7_23 : u_lay RX7 TX7 23 ∈ mm_TB := (mm_t3 (w := u_lay RX7 TX7 23) 212 (by decide +kernel) (by decide +kernel))
set_option maxRecDepth 20000 in
theorem mu_7_24 : u_lay RX7 TX7 24 ∈ mm_TB := (mm_t3 (w := u_lay RX7 TX7 24) 214 (by decide +kernel) (by decide +kernel))
set_option maxRecDepth 20000 in
theorem mu_7_25 : u_lay RX7 TX7 25 ∈ mm_TB := (mm_t3 (w := u_lay RX7 TX7 25) 216 (by decide +kernel) (by decide +kernel))
set_option maxRecDepth 20000 in
theorem mu_7_26 : u_lay RX7 TX7 26 ∈ mm_TB := (mm_t3 (w := u_lay RX7 TX7 26) 218 (by decide +kernel) (by decide +kernel))
set_option maxRecDepth 20000 in
theorem mu_7_27 : u_lay RX7 TX7 27 ∈ mm_TB := (mm_t3 (w := u_lay RX7 TX7 27) 220 (by decide +kernel) (by decide +kernel))
theorem mu_7 : ∀ w ∈ u_ws RX7 TX7 28, w ∈ mm_TB := by
  intro w hw
  obtain ⟨k, hk, rfl⟩ := List.mem_map.mp hw
  have hk := List.mem_range.mp hk
  match k, hk with
  | 0, _ => exact mu_7_0
  | 1, _ => exact mu_7_1
  | 2, _ => exact mu_7_2
  | 3, _ => exact mu_7_3
  | 4, _ => exact mu_7_4
  | 5, _ => exact mu_7_5
  | 6, _ => exact mu_7_6
  | 7, _ => exact mu_7_7
  | 8, _ => exact mu_7_8
  | 9, _ => exact mu_7_9
  | 10, _ => exact mu_7_10
  | 11, _ => exact mu_7_11
  | 12, _ => exact mu_7_12
  | 13, _ => exact mu_7_13
  | 14, _ => exact mu_7_14
  | 15, _ => exact mu_7_15
  | 16, _ => exact mu_7_16
  | 17, _ => exact mu_7_17
  | 18, _ => exact mu_7_18
  | 19, _ => exact mu_7_19
  | 20, _ => exact mu_7_20
  | 21, _ => exact mu_7_21
  | 22, _ => exact mu_7_22
  | 23, _ => exact mu_7_23
  | 24, _ => exact mu_7_24
  | 25, _ => exact mu_7_25
  | 26, _ => exact mu_7_26
  | 27, _ => exact mu_7_27
  | k + 28, hk => exact absurd hk (by omega)
set_option maxRecDepth 20000 in
theorem mj_max : Cond.static Lib.Math.max.name ∈ mm_TB ∧ Cond.code Lib.Math.max.name Lib.Math.max.code 2 (some .int) ∈ mm_TB := ⟨(mm_t2 (w := .static Lib.Math.max.name) 208 (by decide +kernel) (by decide +kernel)), (mm_t2 (w := .code Lib.Math.max.name Lib.Math.max.code 2 (some .int)) 209 (by decide +kernel) (by decide +kernel))⟩
theorem mj_min : Cond.static Lib.Math.min.name ∈ mm_TB ∧ Cond.code Lib.Math.min.name Lib.Math.min.code 2 (some .int) ∈ mm_TB := ⟨(mm_t2 (w := .static Lib.Math.min.name) 51 (by decide +kernel) (by decide +kernel)), (mm_t2 (w := .code Lib.Math.min.name Lib.Math.min.code 2 (some .int)) 52 (by decide +kernel) (by decide +kernel))⟩
theorem mj_abs : Cond.static Lib.Math.abs.name ∈ mm_TB ∧ Cond.code Lib.Math.abs.name Lib.Math.abs.code 1 (some .int) ∈ mm_TB := ⟨(mm_t3 (w := .static Lib.Math.abs.name) 11 (by decide +kernel) (by decide +kernel)), (mm_t3 (w := .code Lib.Math.abs.name Lib.Math.abs.code 1 (some .int)) 12 (by decide +kernel) (by decide +kernel))⟩
theorem mj_math : Cond.initialized "java/lang/Math" ∈ mm_TB := (mm_t1 (w := .initialized "java/lang/Math") 9 (by decide +kernel) (by decide +kernel))
theorem mj_sys : Cond.initialized "java/lang/System" ∈ mm_TB := (mm_t1 (w := .initialized "java/lang/System") 13 (by decide +kernel) (by decide +kernel))
theorem mj_copy : Cond.native arraycopyName ∈ mm_TB ∧ Cond.static arraycopyName ∈ mm_TB := ⟨(mm_t3 (w := .native arraycopyName) 83 (by decide +kernel) (by decide +kernel)), (mm_t3 (w := .static arraycopyName) 82 (by decide +kernel) (by decide +kernel))⟩
theorem mk_2_63 : Cond.constantLong RX2 63 (-1) ∈ mm_TB := (mm_t2 (w := .constantLong RX2 63 (-1)) 49 (by decide +kernel) (by decide +kernel))
theorem mk_6_160 : Cond.constantLong RX6 160 (-9223372036854775808) ∈ mm_TB := (mm_t2 (w := .constantLong RX6 160 (-9223372036854775808)) 94 (by decide +kernel) (by decide +kernel))
theorem mk_10_314 : Cond.constantLong RJ13 314 (6148914691236517205) ∈ mm_TB := (mm_t2 (w := .constantLong RJ13 314 (6148914691236517205)) 125 (by decide +kernel) (by decide +kernel))
theorem mk_10_316 : Cond.constantLong RJ13 316 (3689348814741910323) ∈ mm_TB := (mm_t2 (w := .constantLong RJ13 316 (3689348814741910323)) 126 (by decide +kernel) (by decide +kernel))
theorem mk_10_318 : Cond.constantLong RJ13 318 (1085102592571150095) ∈ mm_TB := (mm_t2 (w := .constantLong RJ13 318 (1085102592571150095)) 127 (by decide +kernel) (by decide +kernel))
theorem mk_5_63 : Cond.constantLong RX5 63 (-1) ∈ mm_TB := (mm_t2 (w := .constantLong RX5 63 (-1)) 165 (by decide +kernel) (by decide +kernel))
theorem mk_7_60 : Cond.constantLong RX7 60 (-9223372036854775808) ∈ mm_TB := (mm_t4 (w := .constantLong RX7 60 (-9223372036854775808)) 72 (by decide +kernel) (by decide +kernel))
theorem mk_9_265 : Cond.constant RJ6 265 (1431655765) ∈ mm_TB := (mm_t2 (w := .constant RJ6 265 (1431655765)) 186 (by decide +kernel) (by decide +kernel))
theorem mk_9_266 : Cond.constant RJ6 266 (858993459) ∈ mm_TB := (mm_t2 (w := .constant RJ6 266 (858993459)) 187 (by decide +kernel) (by decide +kernel))
theorem mk_9_267 : Cond.constant RJ6 267 (252645135) ∈ mm_TB := (mm_t2 (w := .constant RJ6 267 (252645135)) 188 (by decide +kernel) (by decide +kernel))
theorem mk_reach : Cond.fieldLink RX6 255 "PondRings" "REACH" "[I" ∈ mm_TB := (mm_t3 (w := .fieldLink RX6 255 "PondRings" "REACH" "[I") 42 (by decide +kernel) (by decide +kernel))
end
section
/-! the small machine against the large one: its instructions (written by wip/whole/gen08.py) -/
def mm_v (ad : Nat → Nat) : Value → Value
  | .ref q => .ref (ad q)
  | v => v
theorem mm_v_cat (ad : Nat → Nat) (v : Value) : (mm_v ad v).category = v.category := by cases v <;> rfl
theorem mm_sz_v (ad : Nat → Nat) : ∀ S : List Value, ((S.map (mm_v ad)).map fun v => v.category).sum = mm_sz S
  | [] => rfl
  | v :: S => by
    have h := mm_sz_v ad S
    simp only [mm_sz, List.map_cons, List.sum_cons, mm_v_cat] at h ⊢
    rw [h]
def mm_e (ad : Nat → Nat) (ca : Nat → ClassId) (k : Nat) : mm_C → va_E
  | .inl (_, n, .inr (.inr (.inr (.inr f)))) => .inl (ca k, n, .inr (.inr (.inr (.inr (fun j => (f j).map ad)))))
  | .inl (_, a) => .inl (ca k, a)
  | .inr (c, fs) => .inr (c, fs.map (mm_v ad))
def mm_w (ad : Nat → Nat) (ca : Nat → ClassId) (h : mm_H) : va_W := (h.drop 2).mapIdx fun k c => (ad (k + 2), mm_e ad ca (k + 2) c)
theorem mm_w_get {ad : Nat → Nat} {ca : Nat → ClassId} {h : mm_H} {q : Nat} {c : mm_C} (hq : 1 < q) (e : h[q]? = some c) : (mm_w ad ca h)[q - 2]? = some (ad q, mm_e ad ca q c) := by
  unfold mm_w
  rw [List.getElem?_mapIdx, List.getElem?_drop]
  have e2 : 2 + (q - 2) = q := by omega
  have e3 : q - 2 + 2 = q := by omega
  rw [e2, e, e3]
  rfl
theorem mm_w_set {ad : Nat → Nat} {ca : Nat → ClassId} {h : mm_H} {q : Nat} {c : mm_C} (hq : 1 < q) : (mm_w ad ca h).set (q - 2) (ad q, mm_e ad ca q c) = mm_w ad ca (h.set q c) := by
  unfold mm_w
  have e3 : q - 2 + 2 = q := by omega
  rw [List.drop_set, if_neg (by omega), List.mapIdx_set, e3]
def mm_ty (t : Nat) : FieldType := bif Nat.beq t 0 then .int else bif Nat.beq t 1 then .long else bif Nat.beq t 2 then .boolean else .object "PondRings$Sheet"
def mm_T (tys : List (ClassId × FieldType)) (ca : Nat → ClassId) (h : mm_H) : Prop := ∀ (q t : Nat) (a : vp_A), 1 < q → h[q]? = some (.inl (t, a)) → ∃ i : Nat, tys[i]? = some (ca q, mm_ty t)
theorem mm_T.set {tys : List (ClassId × FieldType)} {ca : Nat → ClassId} {h : mm_H} (k : mm_T tys ca h) {q t : Nat} {a b : vp_A} (e : h[q]? = some (.inl (t, a))) : mm_T tys ca (h.set q (.inl (t, b))) := by
  intro q' t' a' hq' e'
  by_cases hq : q' = q
  · subst hq
    rw [List.getElem?_set_self (List.getElem?_eq_some_iff.mp e).1] at e'
    cases e'
    exact k q' t a hq' e
  · rw [List.getElem?_set_ne (Ne.symm hq)] at e'
    exact k q' t' a' hq' e'
theorem mm_T.setO {tys : List (ClassId × FieldType)} {ca : Nat → ClassId} {h : mm_H} (k : mm_T tys ca h) {q : Nat} {x : Nat × List Value} : mm_T tys ca (h.set q (.inr x)) := by
  intro q' t' a' hq' e'
  by_cases hq : q' = q
  · subst hq
    rw [List.getElem?_set] at e'
    split at e'
    · split at e' <;> cases e'
    · exact k q' t' a' hq' e'
  · rw [List.getElem?_set_ne (Ne.symm hq)] at e'
    exact k q' t' a' hq' e'
def mm_reach : Nat → Int32 := fun j => if j = 0 then 99 else if j = 1 then 3 else 1
/-- the world's names: where classes and fields are, the cells' addresses, arrays' classes, their types, which addresses are ours, the script -/
abbrev mm_G : Type := va_G × (Nat → Nat) × (Nat → ClassId) × List (ClassId × FieldType) × (Nat → Prop) × Nat × (Nat → Int32)
def mm_RS (L : Nat) (xs : Nat → Int32) (h : mm_H) : Prop := h[0]? = some (.inl (0, 3, .inl mm_reach)) ∧ h[1]? = some (.inl (0, L, .inl xs))
theorem mm_RS.set {L : Nat} {xs : Nat → Int32} {h : mm_H} (k : mm_RS L xs h) {q : Nat} {c : mm_C} (hq : 1 < q) : mm_RS L xs (h.set q c) := ⟨by rw [List.getElem?_set_ne (by omega)]; exact k.1, by rw [List.getElem?_set_ne (by omega)]; exact k.2⟩
theorem mm_RS.ob {L : Nat} {xs : Nat → Int32} {h : mm_H} (k : mm_RS L xs h) {q : Nat} {x : Nat × List Value} (e : h[q]? = some (.inr x)) : 1 < q := by
  rcases Nat.lt_or_ge 1 q with r | r
  · exact r
  · rcases (show q = 0 ∨ q = 1 by omega) with rfl | rfl
    · rw [k.1] at e; cases e
    · rw [k.2] at e; cases e
def mm_I (g : mm_G) (h : mm_H) (H : Heap) : Prop := va_P g.1 mm_K (mm_w g.2.1 g.2.2.1 h) H ∧ va_D g.2.2.2.2.1 (mm_w g.2.1 g.2.2.1 h) ∧ mm_T g.2.2.2.1 g.2.2.1 h ∧ mm_RS g.2.2.2.2.2.1 g.2.2.2.2.2.2 h
def mm_Z (g : mm_G) (U : State) (H : Heap) : Prop := va_K g.1 mm_K g.2.2.2.1 U ∧ va_Z "PondRings" "REACH" "[I" (.ref (g.2.1 0)) g.2.2.2.2.1 U H ∧ va_T .int (g.2.1 0) 3 (fun j => .int (mm_reach j)) g.2.2.2.2.1 U H ∧ va_X (g.2.1 1) g.2.2.2.2.2.1 g.2.2.2.2.2.2 U H ∧ ¬ g.2.2.2.2.1 (g.2.1 1) ∧
  va_Nw (.methodLinkNest RX1 49 yX6_lowestBit "PondRings") U ∧ va_Nw (.methodLinkNest RX5 65 yX6_lowestBit "PondRings") U ∧ va_Nw (.fieldLinkNest RX0 25 "PondRings" "REACH" "[I" "PondRings") U
theorem mm_Z.go {g : mm_G} {s U : State} {H : Heap} {locs : List Loc} (k : mm_Z g s s.heap) (hW : s.WarmedH U.vm) (hU : U.heap = H) (hS : va_S g.2.2.2.2.1 s.heap H locs) : mm_Z g U U.heap := by
  obtain ⟨h1, h2, h3, h4, h5, h6, h7, h8⟩ := k
  subst hU
  refine ⟨va_K.moved hW.alike h1, (h2.moved hW.alike).kept (fun a q r => hS.2.1 a q r), (h3.moved hW.alike).kept (fun a q r => hS.2.1 a q r), ?_, h5, h6.warmM hW, h7.warmM hW, h8.warmF hW⟩
  obtain ⟨scr, e1, e2⟩ := h4
  exact (va_X.moved hW.alike ⟨scr, e1, e2⟩).kept (hS.2.1 _ (Array.getElem?_eq_some_iff.mp e1).1 h5)
theorem mm_Z.at {g : mm_G} {u U : State} {H : Heap} (k : mm_Z g u H) (hvm : u.vm = U.vm) : mm_Z g U H := by
  obtain ⟨h1, h2, h3, h4, h5, h6, h7, h8⟩ := k
  have hA : u.vm.Alike U.vm := by rw [hvm]; exact Vm.Alike.refl U.vm
  exact ⟨va_K.moved hA h1, h2.moved hA, h3.moved hA, va_X.moved hA h4, h5, h6.same rfl hvm, h7.same rfl hvm, h8.same rfl hvm⟩
def mm_lp (ad : Nat → Nat) (L : mm_L) : List (Nat × Value) := L.zipIdx.filterMap fun q => q.1.map fun v => (q.2, mm_v ad v)
theorem mm_lp_mem {ad : Nat → Nat} {L : mm_L} {q : Nat × Value} : q ∈ mm_lp ad L ↔ ∃ u, L[q.1]? = some (some u) ∧ q.2 = mm_v ad u := by
  unfold mm_lp
  rw [List.mem_filterMap]
  constructor
  · rintro ⟨⟨z, j⟩, hm, he⟩
    rw [List.mem_zipIdx_iff_getElem?] at hm
    cases z with
    | none => cases he
    | some u => cases he; exact ⟨u, hm, rfl⟩
  · rintro ⟨u, h1, h2⟩
    exact ⟨(some u, q.1), List.mem_zipIdx_iff_getElem?.mpr h1, by simp [← h2]⟩
theorem mm_lp_at {ad : Nat → Nat} {L : mm_L} {ls : Array Slot} {n i : Nat} {v : Value} (h : lv_has ls n (mm_lp ad L)) (e : L[i]? = some (some v)) : ls[i]? = some (.val (mm_v ad v)) := h.2.2 (i, mm_v ad v) (mm_lp_mem.mpr ⟨v, e, rfl⟩)
theorem mm_lp_sub {ls : Array Slot} {n : Nat} {l l' : List (Nat × Value)} (h : lv_has ls n l) (k : ∀ q ∈ l', q ∈ l) : lv_has ls n l' := ⟨h.1, h.2.1, fun q hq => h.2.2 q (k q hq)⟩
theorem mm_st1_len (L : mm_L) (i : Nat) (v : Value) : (mm_st1 L i v).length = L.length := by
  unfold mm_st1
  rw [List.length_set]
  split
  · rfl
  · split
    · cases Nat.beq _ 2
      · rfl
      · exact List.length_set
    · rfl
theorem mm_st2_len (L : mm_L) (i : Nat) (v : Value) : (mm_st2 L i v).length = L.length := by
  unfold mm_st2
  rw [List.length_set, mm_st1_len]
theorem mm_st1_get {L : mm_L} {i j : Nat} {v u : Value} (e : (mm_st1 L i v)[j]? = some (some u)) : (j = i ∧ u = v) ∨ (j ≠ i ∧ L[j]? = some (some u) ∧ ¬ (j + 1 = i ∧ u.category = 2)) := by
  unfold mm_st1 at e
  by_cases hj : j = i
  · subst hj
    have key : ∀ X : mm_L, (X.set j (some v))[j]? = some (some u) → u = v := by
      intro X e
      rw [List.getElem?_set] at e
      simp only [if_true] at e
      split at e
      · cases e; rfl
      · cases e
    exact Or.inl ⟨rfl, key _ e⟩
  · rw [List.getElem?_set_ne (Ne.symm hj)] at e
    refine Or.inr ⟨hj, ?_⟩
    cases i with
    | zero => exact ⟨e, fun h => by omega⟩
    | succ i =>
      simp only at e
      cases hL : L[i]? with
      | none => rw [hL] at e; exact ⟨e, fun h => by have := h.1; have hh : j = i := by omega
                                                    rw [hh, hL] at e; cases e⟩
      | some z =>
        cases z with
        | none => rw [hL] at e; exact ⟨e, fun h => by have hh : j = i := by omega
                                                      rw [hh, hL] at e; cases e⟩
        | some w =>
          rw [hL] at e
          simp only at e
          cases hb : Nat.beq w.category 2 with
          | true =>
            rw [hb] at e
            simp only [cond_true] at e
            by_cases hh : j = i
            · subst hh
              rw [List.getElem?_set] at e
              simp only [if_true] at e
              split at e <;> cases e
            · rw [List.getElem?_set_ne (Ne.symm hh)] at e
              exact ⟨e, fun h => hh (by omega)⟩
          | false =>
            rw [hb] at e
            simp only [cond_false] at e
            refine ⟨e, fun h => ?_⟩
            have hh : j = i := by omega
            rw [hh, hL] at e
            cases e
            rw [h.2] at hb
            cases hb
theorem mm_lp_st1 {ad : Nat → Nat} {L : mm_L} {ls : Array Slot} {n i : Nat} {v : Value} (h : lv_has ls n ((i, mm_v ad v) :: (mm_lp ad L).filter (fun q => !(q.1 == i) && !(q.1 + 1 == i && q.2.category == 2)))) : lv_has ls n (mm_lp ad (mm_st1 L i v)) := by
  refine mm_lp_sub h ?_
  rintro ⟨j, x⟩ hq
  obtain ⟨u, h1, h2⟩ := mm_lp_mem.mp hq
  simp only at h1 h2
  subst h2
  rcases mm_st1_get h1 with ⟨rfl, rfl⟩ | ⟨h3, h4, h5⟩
  · exact List.mem_cons_self
  · refine List.mem_cons_of_mem _ (List.mem_filter.mpr ⟨mm_lp_mem.mpr ⟨u, h4, rfl⟩, ?_⟩)
    simp only [mm_v_cat]
    by_cases h6 : j + 1 = i
    · have h7 : ¬ u.category = 2 := fun z => h5 ⟨h6, z⟩
      simp [h3, h7]
    · simp [h3, h6]
theorem mm_lp_st2 {ad : Nat → Nat} {L : mm_L} {ls : Array Slot} {n i : Nat} {v : Value} (h : lv_has ls n ((i, mm_v ad v) :: (mm_lp ad L).filter (fun q => !(q.1 == i) && (!(q.1 == i + 1) && !(q.1 + 1 == i && q.2.category == 2))))) : lv_has ls n (mm_lp ad (mm_st2 L i v)) := by
  refine mm_lp_sub h ?_
  rintro ⟨j, x⟩ hq
  obtain ⟨u, h1, h2⟩ := mm_lp_mem.mp hq
  simp only at h1 h2
  subst h2
  unfold mm_st2 at h1
  have h8 : j ≠ i + 1 := by
    intro z
    subst z
    rw [List.getElem?_set] at h1
    simp only [if_true] at h1
    split at h1 <;> cases h1
  rw [List.getElem?_set_ne (Ne.symm h8)] at h1
  rcases mm_st1_get h1 with ⟨rfl, rfl⟩ | ⟨h3, h4, h5⟩
  · exact List.mem_cons_self
  · refine List.mem_cons_of_mem _ (List.mem_filter.mpr ⟨mm_lp_mem.mpr ⟨u, h4, rfl⟩, ?_⟩)
    simp only [mm_v_cat]
    by_cases h6 : j + 1 = i
    · have h7 : ¬ u.category = 2 := fun z => h5 ⟨h6, z⟩
      simp [h3, h7, h8]
    · simp [h3, h6, h8]
theorem me_1i {S : List Value} {f : Int32 → List Value → Option mm_F} {F : mm_F} (h : mx_1i S f = some F) : ∃ (x : Int32) (T : List Value), S = .int x :: T ∧ f x T = some F := by
  unfold mx_1i at h
  split at h
  · exact ⟨_, _, rfl, h⟩
  · cases h
theorem me_2i {S : List Value} {f : Int32 → Int32 → List Value → Option mm_F} {F : mm_F} (h : mx_2i S f = some F) : ∃ (x y : Int32) (T : List Value), S = .int y :: .int x :: T ∧ f x y T = some F := by
  unfold mx_2i at h
  split at h
  · exact ⟨_, _, _, rfl, h⟩
  · cases h
theorem me_1l {S : List Value} {f : Int64 → List Value → Option mm_F} {F : mm_F} (h : mx_1l S f = some F) : ∃ (x : Int64) (T : List Value), S = .long x :: T ∧ f x T = some F := by
  unfold mx_1l at h
  split at h
  · exact ⟨_, _, rfl, h⟩
  · cases h
theorem me_2l {S : List Value} {f : Int64 → Int64 → List Value → Option mm_F} {F : mm_F} (h : mx_2l S f = some F) : ∃ (x y : Int64) (T : List Value), S = .long y :: .long x :: T ∧ f x y T = some F := by
  unfold mx_2l at h
  split at h
  · exact ⟨_, _, _, rfl, h⟩
  · cases h
theorem me_il {S : List Value} {f : Int64 → Int32 → List Value → Option mm_F} {F : mm_F} (h : mx_il S f = some F) : ∃ (x : Int64) (y : Int32) (T : List Value), S = .int y :: .long x :: T ∧ f x y T = some F := by
  unfold mx_il at h
  split at h
  · exact ⟨_, _, _, rfl, h⟩
  · cases h
theorem me_1r {S : List Value} {f : Nat → List Value → Option mm_F} {F : mm_F} (h : mx_1r S f = some F) : ∃ (q : Nat) (T : List Value), S = .ref q :: T ∧ f q T = some F := by
  unfold mx_1r at h
  split at h
  · exact ⟨_, _, rfl, h⟩
  · cases h
theorem me_ri {S : List Value} {f : Nat → Int32 → List Value → Option mm_F} {F : mm_F} (h : mx_ri S f = some F) : ∃ (q : Nat) (i : Int32) (T : List Value), S = .int i :: .ref q :: T ∧ f q i T = some F := by
  unfold mx_ri at h
  split at h
  · exact ⟨_, _, _, rfl, h⟩
  · cases h
theorem me_rii {S : List Value} {f : Nat → Int32 → Int32 → List Value → Option mm_F} {F : mm_F} (h : mx_rii S f = some F) : ∃ (q : Nat) (i x : Int32) (T : List Value), S = .int x :: .int i :: .ref q :: T ∧ f q i x T = some F := by
  unfold mx_rii at h
  split at h
  · exact ⟨_, _, _, _, rfl, h⟩
  · cases h
theorem me_ril {S : List Value} {f : Nat → Int32 → Int64 → List Value → Option mm_F} {F : mm_F} (h : mx_ril S f = some F) : ∃ (q : Nat) (i : Int32) (x : Int64) (T : List Value), S = .long x :: .int i :: .ref q :: T ∧ f q i x T = some F := by
  unfold mx_ril at h
  split at h
  · exact ⟨_, _, _, _, rfl, h⟩
  · cases h
theorem me_ldi {L : mm_L} {i : Nat} {f : Int32 → Option mm_F} {F : mm_F} (h : mx_ldi L i f = some F) : ∃ x : Int32, L[i]? = some (some (.int x)) ∧ f x = some F := by
  unfold mx_ldi at h
  split at h
  · rename_i x e; exact ⟨x, e, h⟩
  · cases h
theorem me_ldl {L : mm_L} {i : Nat} {f : Int64 → Option mm_F} {F : mm_F} (h : mx_ldl L i f = some F) : ∃ x : Int64, L[i]? = some (some (.long x)) ∧ f x = some F := by
  unfold mx_ldl at h
  split at h
  · rename_i x e; exact ⟨x, e, h⟩
  · cases h
theorem me_lda {L : mm_L} {i : Nat} {f : Nat → Option mm_F} {F : mm_F} (h : mx_lda L i f = some F) : ∃ x : Nat, L[i]? = some (some (.ref x)) ∧ f x = some F := by
  unfold mx_lda at h
  split at h
  · rename_i x e; exact ⟨x, e, h⟩
  · cases h
theorem me_to {pc : Nat} {d : Int} {f : Nat → Option mm_F} {F : mm_F} (h : mx_to pc d f = some F) : ∃ t : Nat, (pc : Int) + d = (t : Int) ∧ f t = some F := by
  unfold mx_to at h
  split at h
  · rename_i t e; exact ⟨t, e, h⟩
  · cases h
theorem me_ai {h : mm_H} {q : Nat} {f : Nat → (Nat → Int32) → Option mm_F} {F : mm_F} (e : mx_ai h q f = some F) : ∃ (n : Nat) (u : Nat → Int32), h[q]? = some (.inl (0, n, .inl u)) ∧ f n u = some F := by
  unfold mx_ai at e
  split at e
  · rename_i n u z; exact ⟨n, u, z, e⟩
  · cases e
theorem me_al {h : mm_H} {q : Nat} {f : Nat → (Nat → Int64) → Option mm_F} {F : mm_F} (e : mx_al h q f = some F) : ∃ (n : Nat) (u : Nat → Int64), h[q]? = some (.inl (1, n, .inr (.inl u))) ∧ f n u = some F := by
  unfold mx_al at e
  split at e
  · rename_i n u z; exact ⟨n, u, z, e⟩
  · cases e
theorem me_ab {h : mm_H} {q : Nat} {f : Nat → (Nat → Int32) → Option mm_F} {F : mm_F} (e : mx_ab h q f = some F) : ∃ (n : Nat) (u : Nat → Int32), h[q]? = some (.inl (2, n, .inl u)) ∧ f n u = some F := by
  unfold mx_ab at e
  split at e
  · rename_i n u z; exact ⟨n, u, z, e⟩
  · cases e
theorem me_ar {h : mm_H} {q : Nat} {f : Nat → (Nat → Option Nat) → Option mm_F} {F : mm_F} (e : mx_ar h q f = some F) : ∃ (n : Nat) (u : Nat → Option Nat), h[q]? = some (.inl (3, n, .inr (.inr (.inr (.inr u))))) ∧ f n u = some F := by
  unfold mx_ar at e
  split at e
  · rename_i n u z; exact ⟨n, u, z, e⟩
  · cases e
theorem me_an {h : mm_H} {q : Nat} {f : Nat → Option mm_F} {F : mm_F} (e : mx_an h q f = some F) : ∃ (t : Nat) (a : vp_A), h[q]? = some (.inl (t, a)) ∧ f a.1 = some F := by
  unfold mx_an at e
  split at e
  · rename_i t n u z; exact ⟨t, (n, u), z, e⟩
  · cases e
theorem me_ob {h : mm_H} {q ci : Nat} {f : List Value → Option mm_F} {F : mm_F} (e : mx_ob h q ci f = some F) : ∃ fs : List Value, h[q]? = some (.inr (ci, fs)) ∧ f fs = some F := by
  unfold mx_ob at e
  split at e
  · rename_i c fs z
    cases hb : Nat.beq c ci with
    | true => rw [hb] at e; rw [Nat.eq_of_beq_eq_true hb] at z; exact ⟨fs, z, e⟩
    | false => rw [hb] at e; cases e
  · cases e
theorem me_if {c : Prop} {_ : Decidable c} {a : Option mm_F} {F : mm_F} (h : (if c then none else a) = some F) : ¬ c ∧ a = some F := by
  split at h
  · cases h
  · rename_i n; exact ⟨n, h⟩
theorem me_it {c : Prop} {_ : Decidable c} {a : Option mm_F} {F : mm_F} (h : (if c then a else none) = some F) : c ∧ a = some F := by
  split at h
  · rename_i n; exact ⟨n, h⟩
  · cases h
theorem me_bif {c : Bool} {a : Option mm_F} {F : mm_F} (h : (bif c then a else none) = some F) : c = true ∧ a = some F := by
  cases c
  · cases h
  · exact ⟨rfl, h⟩
theorem me_blt {a b : Nat} (h : Nat.blt a b = true) : a < b := Nat.le_of_ble_eq_true h
end
section
/-! each instruction of the small machine is one of the large (written by wip/whole/gen09.py) -/
section SX
variable {p : Program} {l : Launch} {e : Env} {R : Room} {s : State} {m : MethodId} {args : Array Value} {below : List Frame} {meth : Method} {c : Code} {cells slots : Nat} {Q : State → Prop} {g : mm_G} {o : Nat} {cc : ByteArray} {pc n : Nat} {L : mm_L} {S : List Value} {h : mm_H} {F : mm_F}
def mm_J (p : Program) (l : Launch) (e : Env) (R : Room) (s : State) (m : MethodId) (args : Array Value) (below : List Frame) (meth : Method) (c : Code) (cells slots : Nat) (Q : State → Prop) (g : mm_G) (F : mm_F) : Prop :=
  ∀ (H : Heap) (locs : List Loc) (ls : Array Slot), mm_I g F.2.2.2 H → va_S g.2.2.2.2.1 s.heap H locs → F.2.1.length = c.maxLocals → lv_has ls c.maxLocals (mm_lp g.2.1 F.2.1) →
    W p l e R s m args below meth c H locs cells slots Q (F0 m F.1 ls (F.2.2.1.map (mm_v g.2.1)))
def mm_Cx (p : Program) (R : Room) (s : State) (m : MethodId) (args : Array Value) (c : Code) (cells slots : Nat) (g : mm_G) (o : Nat) (cc : ByteArray) : Prop :=
  p.tables.exec = Jvm.exec ∧ c.code = cc ∧ s.vm.findClass (mm_nm o) = some m.cls ∧ (∀ w ∈ mm_TB, w.before args s = true) ∧ mm_Z g s s.heap ∧ (1 ≤ R.frames ∧ 64 ≤ R.locals) ∧ (cells ≤ R.cells ∧ slots ≤ R.slots)
theorem sx_iconst {z : Int} (X : mm_Cx p R s m args c cells slots g o cc) (hd : decode cc pc = .ok (.iconst z, n)) (hn : mm_len (.iconst z) n = true) (hf : mm_x o (.iconst z) pc L S h = some F) (k : mm_J p l e R s m args below meth c cells slots Q g F) : mm_J p l e R s m args below meth c cells slots Q g (pc, L, S, h) := by
  have e9 : n = 1 := Nat.eq_of_beq_eq_true hn
  subst e9
  obtain ⟨hx, hb, hown, hts, hZ, hR, hcs⟩ := X
  cases hf
  intro H locs ls hI hS hl hv
  exact lv_iconst hx hb hd rfl (k H locs ls hI hS hl hv)
theorem sx_bipush {z : Int} (X : mm_Cx p R s m args c cells slots g o cc) (hd : decode cc pc = .ok (.bipush z, n)) (hn : mm_len (.bipush z) n = true) (hf : mm_x o (.bipush z) pc L S h = some F) (k : mm_J p l e R s m args below meth c cells slots Q g F) : mm_J p l e R s m args below meth c cells slots Q g (pc, L, S, h) := by
  have e9 : n = 2 := Nat.eq_of_beq_eq_true hn
  subst e9
  obtain ⟨hx, hb, hown, hts, hZ, hR, hcs⟩ := X
  cases hf
  intro H locs ls hI hS hl hv
  exact lv_bipush hx hb hd rfl (k H locs ls hI hS hl hv)
theorem sx_sipush {z : Int} (X : mm_Cx p R s m args c cells slots g o cc) (hd : decode cc pc = .ok (.sipush z, n)) (hn : mm_len (.sipush z) n = true) (hf : mm_x o (.sipush z) pc L S h = some F) (k : mm_J p l e R s m args below meth c cells slots Q g F) : mm_J p l e R s m args below meth c cells slots Q g (pc, L, S, h) := by
  have e9 : n = 3 := Nat.eq_of_beq_eq_true hn
  subst e9
  obtain ⟨hx, hb, hown, hts, hZ, hR, hcs⟩ := X
  cases hf
  intro H locs ls hI hS hl hv
  exact lv_sipush hx hb hd rfl (k H locs ls hI hS hl hv)
theorem sx_lconst {z : Fin 2} (X : mm_Cx p R s m args c cells slots g o cc) (hd : decode cc pc = .ok (.lconst z, n)) (hn : mm_len (.lconst z) n = true) (hf : mm_x o (.lconst z) pc L S h = some F) (k : mm_J p l e R s m args below meth c cells slots Q g F) : mm_J p l e R s m args below meth c cells slots Q g (pc, L, S, h) := by
  have e9 : n = 1 := Nat.eq_of_beq_eq_true hn
  subst e9
  obtain ⟨hx, hb, hown, hts, hZ, hR, hcs⟩ := X
  cases hf
  intro H locs ls hI hS hl hv
  exact lv_lconst hx hb hd rfl (k H locs ls hI hS hl hv)
theorem sx_iload_n {z : Fin 4} (X : mm_Cx p R s m args c cells slots g o cc) (hd : decode cc pc = .ok (.iload_n z, n)) (hn : mm_len (.iload_n z) n = true) (hf : mm_x o (.iload_n z) pc L S h = some F) (k : mm_J p l e R s m args below meth c cells slots Q g F) : mm_J p l e R s m args below meth c cells slots Q g (pc, L, S, h) := by
  have e9 : n = 1 := Nat.eq_of_beq_eq_true hn
  subst e9
  obtain ⟨hx, hb, hown, hts, hZ, hR, hcs⟩ := X
  obtain ⟨x, hL, hf⟩ := me_ldi hf
  cases hf
  intro H locs ls hI hS hl hv
  exact lv_iload_n hx hb hd rfl (mm_lp_at hv hL) (k H locs ls hI hS hl hv)
theorem sx_iload {z : Nat} (X : mm_Cx p R s m args c cells slots g o cc) (hd : decode cc pc = .ok (.iload z, n)) (hn : mm_len (.iload z) n = true) (hf : mm_x o (.iload z) pc L S h = some F) (k : mm_J p l e R s m args below meth c cells slots Q g F) : mm_J p l e R s m args below meth c cells slots Q g (pc, L, S, h) := by
  have e9 : n = 2 := Nat.eq_of_beq_eq_true hn
  subst e9
  obtain ⟨hx, hb, hown, hts, hZ, hR, hcs⟩ := X
  obtain ⟨x, hL, hf⟩ := me_ldi hf
  cases hf
  intro H locs ls hI hS hl hv
  exact lv_iload hx hb hd (mm_lp_at hv hL) (k H locs ls hI hS hl hv)
theorem sx_lload_n {z : Fin 4} (X : mm_Cx p R s m args c cells slots g o cc) (hd : decode cc pc = .ok (.lload_n z, n)) (hn : mm_len (.lload_n z) n = true) (hf : mm_x o (.lload_n z) pc L S h = some F) (k : mm_J p l e R s m args below meth c cells slots Q g F) : mm_J p l e R s m args below meth c cells slots Q g (pc, L, S, h) := by
  have e9 : n = 1 := Nat.eq_of_beq_eq_true hn
  subst e9
  obtain ⟨hx, hb, hown, hts, hZ, hR, hcs⟩ := X
  obtain ⟨x, hL, hf⟩ := me_ldl hf
  cases hf
  intro H locs ls hI hS hl hv
  exact lv_lload_n hx hb hd rfl (mm_lp_at hv hL) (k H locs ls hI hS hl hv)
theorem sx_lload {z : Nat} (X : mm_Cx p R s m args c cells slots g o cc) (hd : decode cc pc = .ok (.lload z, n)) (hn : mm_len (.lload z) n = true) (hf : mm_x o (.lload z) pc L S h = some F) (k : mm_J p l e R s m args below meth c cells slots Q g F) : mm_J p l e R s m args below meth c cells slots Q g (pc, L, S, h) := by
  have e9 : n = 2 := Nat.eq_of_beq_eq_true hn
  subst e9
  obtain ⟨hx, hb, hown, hts, hZ, hR, hcs⟩ := X
  obtain ⟨x, hL, hf⟩ := me_ldl hf
  cases hf
  intro H locs ls hI hS hl hv
  exact lv_lload hx hb hd (mm_lp_at hv hL) (k H locs ls hI hS hl hv)
theorem sx_aload_n {z : Fin 4} (X : mm_Cx p R s m args c cells slots g o cc) (hd : decode cc pc = .ok (.aload_n z, n)) (hn : mm_len (.aload_n z) n = true) (hf : mm_x o (.aload_n z) pc L S h = some F) (k : mm_J p l e R s m args below meth c cells slots Q g F) : mm_J p l e R s m args below meth c cells slots Q g (pc, L, S, h) := by
  have e9 : n = 1 := Nat.eq_of_beq_eq_true hn
  subst e9
  obtain ⟨hx, hb, hown, hts, hZ, hR, hcs⟩ := X
  obtain ⟨x, hL, hf⟩ := me_lda hf
  cases hf
  intro H locs ls hI hS hl hv
  exact lv_aload_n hx hb hd rfl (mm_lp_at hv hL) (k H locs ls hI hS hl hv)
theorem sx_aload {z : Nat} (X : mm_Cx p R s m args c cells slots g o cc) (hd : decode cc pc = .ok (.aload z, n)) (hn : mm_len (.aload z) n = true) (hf : mm_x o (.aload z) pc L S h = some F) (k : mm_J p l e R s m args below meth c cells slots Q g F) : mm_J p l e R s m args below meth c cells slots Q g (pc, L, S, h) := by
  have e9 : n = 2 := Nat.eq_of_beq_eq_true hn
  subst e9
  obtain ⟨hx, hb, hown, hts, hZ, hR, hcs⟩ := X
  obtain ⟨x, hL, hf⟩ := me_lda hf
  cases hf
  intro H locs ls hI hS hl hv
  exact lv_aload hx hb hd (mm_lp_at hv hL) (k H locs ls hI hS hl hv)
theorem sx_istore_n {z : Fin 4} (X : mm_Cx p R s m args c cells slots g o cc) (hd : decode cc pc = .ok (.istore_n z, n)) (hn : mm_len (.istore_n z) n = true) (hf : mm_x o (.istore_n z) pc L S h = some F) (k : mm_J p l e R s m args below meth c cells slots Q g F) : mm_J p l e R s m args below meth c cells slots Q g (pc, L, S, h) := by
  have e9 : n = 1 := Nat.eq_of_beq_eq_true hn
  subst e9
  obtain ⟨hx, hb, hown, hts, hZ, hR, hcs⟩ := X
  obtain ⟨x, T, rfl, hf⟩ := me_1i hf
  obtain ⟨hlt, hf⟩ := me_bif hf
  cases hf
  intro H locs ls hI hS hl hv
  exact lv_istore_n hx hb hd rfl hv (by rw [← hl]; exact me_blt hlt) rfl (fun ls2 hv2 => k H locs ls2 hI hS ((mm_st1_len _ _ _).trans hl) (mm_lp_st1 hv2))
theorem sx_istore {z : Nat} (X : mm_Cx p R s m args c cells slots g o cc) (hd : decode cc pc = .ok (.istore z, n)) (hn : mm_len (.istore z) n = true) (hf : mm_x o (.istore z) pc L S h = some F) (k : mm_J p l e R s m args below meth c cells slots Q g F) : mm_J p l e R s m args below meth c cells slots Q g (pc, L, S, h) := by
  have e9 : n = 2 := Nat.eq_of_beq_eq_true hn
  subst e9
  obtain ⟨hx, hb, hown, hts, hZ, hR, hcs⟩ := X
  obtain ⟨x, T, rfl, hf⟩ := me_1i hf
  obtain ⟨hlt, hf⟩ := me_bif hf
  cases hf
  intro H locs ls hI hS hl hv
  exact lv_istore hx hb hd hv (by rw [← hl]; exact me_blt hlt) rfl (fun ls2 hv2 => k H locs ls2 hI hS ((mm_st1_len _ _ _).trans hl) (mm_lp_st1 hv2))
theorem sx_lstore_n {z : Fin 4} (X : mm_Cx p R s m args c cells slots g o cc) (hd : decode cc pc = .ok (.lstore_n z, n)) (hn : mm_len (.lstore_n z) n = true) (hf : mm_x o (.lstore_n z) pc L S h = some F) (k : mm_J p l e R s m args below meth c cells slots Q g F) : mm_J p l e R s m args below meth c cells slots Q g (pc, L, S, h) := by
  have e9 : n = 1 := Nat.eq_of_beq_eq_true hn
  subst e9
  obtain ⟨hx, hb, hown, hts, hZ, hR, hcs⟩ := X
  obtain ⟨x, T, rfl, hf⟩ := me_1l hf
  obtain ⟨hlt, hf⟩ := me_bif hf
  cases hf
  intro H locs ls hI hS hl hv
  exact lv_lstore_n hx hb hd rfl hv (by rw [← hl]; exact me_blt hlt) rfl (fun ls2 hv2 => k H locs ls2 hI hS ((mm_st2_len _ _ _).trans hl) (mm_lp_st2 hv2))
theorem sx_lstore {z : Nat} (X : mm_Cx p R s m args c cells slots g o cc) (hd : decode cc pc = .ok (.lstore z, n)) (hn : mm_len (.lstore z) n = true) (hf : mm_x o (.lstore z) pc L S h = some F) (k : mm_J p l e R s m args below meth c cells slots Q g F) : mm_J p l e R s m args below meth c cells slots Q g (pc, L, S, h) := by
  have e9 : n = 2 := Nat.eq_of_beq_eq_true hn
  subst e9
  obtain ⟨hx, hb, hown, hts, hZ, hR, hcs⟩ := X
  obtain ⟨x, T, rfl, hf⟩ := me_1l hf
  obtain ⟨hlt, hf⟩ := me_bif hf
  cases hf
  intro H locs ls hI hS hl hv
  exact lv_lstore hx hb hd hv (by rw [← hl]; exact me_blt hlt) rfl (fun ls2 hv2 => k H locs ls2 hI hS ((mm_st2_len _ _ _).trans hl) (mm_lp_st2 hv2))
theorem sx_astore_n {z : Fin 4} (X : mm_Cx p R s m args c cells slots g o cc) (hd : decode cc pc = .ok (.astore_n z, n)) (hn : mm_len (.astore_n z) n = true) (hf : mm_x o (.astore_n z) pc L S h = some F) (k : mm_J p l e R s m args below meth c cells slots Q g F) : mm_J p l e R s m args below meth c cells slots Q g (pc, L, S, h) := by
  have e9 : n = 1 := Nat.eq_of_beq_eq_true hn
  subst e9
  obtain ⟨hx, hb, hown, hts, hZ, hR, hcs⟩ := X
  obtain ⟨x, T, rfl, hf⟩ := me_1r hf
  obtain ⟨hlt, hf⟩ := me_bif hf
  cases hf
  intro H locs ls hI hS hl hv
  exact lv_astore_n hx hb hd rfl hv (by rw [← hl]; exact me_blt hlt) rfl (fun ls2 hv2 => k H locs ls2 hI hS ((mm_st1_len _ _ _).trans hl) (mm_lp_st1 hv2))
theorem sx_astore {z : Nat} (X : mm_Cx p R s m args c cells slots g o cc) (hd : decode cc pc = .ok (.astore z, n)) (hn : mm_len (.astore z) n = true) (hf : mm_x o (.astore z) pc L S h = some F) (k : mm_J p l e R s m args below meth c cells slots Q g F) : mm_J p l e R s m args below meth c cells slots Q g (pc, L, S, h) := by
  have e9 : n = 2 := Nat.eq_of_beq_eq_true hn
  subst e9
  obtain ⟨hx, hb, hown, hts, hZ, hR, hcs⟩ := X
  obtain ⟨x, T, rfl, hf⟩ := me_1r hf
  obtain ⟨hlt, hf⟩ := me_bif hf
  cases hf
  intro H locs ls hI hS hl hv
  exact lv_astore hx hb hd hv (by rw [← hl]; exact me_blt hlt) rfl (fun ls2 hv2 => k H locs ls2 hI hS ((mm_st1_len _ _ _).trans hl) (mm_lp_st1 hv2))
theorem sx_iinc {z : Nat} {d : Int} (X : mm_Cx p R s m args c cells slots g o cc) (hd : decode cc pc = .ok (.iinc z d, n)) (hn : mm_len (.iinc z d) n = true) (hf : mm_x o (.iinc z d) pc L S h = some F) (k : mm_J p l e R s m args below meth c cells slots Q g F) : mm_J p l e R s m args below meth c cells slots Q g (pc, L, S, h) := by
  have e9 : n = 3 := Nat.eq_of_beq_eq_true hn
  subst e9
  obtain ⟨hx, hb, hown, hts, hZ, hR, hcs⟩ := X
  obtain ⟨x, hL, hf⟩ := me_ldi hf
  obtain ⟨hlt, hf⟩ := me_bif hf
  cases hf
  intro H locs ls hI hS hl hv
  obtain ⟨j, hj⟩ := List.getElem?_of_mem (mm_lp_mem (ad := g.2.1).mpr ⟨.int x, hL, rfl⟩ : ((z, Value.int x) : Nat × Value) ∈ mm_lp g.2.1 L)
  exact lv_iinc hx hb hd hv hj rfl (by rw [← hl]; exact me_blt hlt) rfl (fun ls2 hv2 => k H locs ls2 hI hS ((mm_st1_len _ _ _).trans hl) (mm_lp_st1 (v := .int (x + Int32.ofInt d)) hv2))
theorem sx_iadd (X : mm_Cx p R s m args c cells slots g o cc) (hd : decode cc pc = .ok (.iadd, n)) (hn : mm_len (.iadd) n = true) (hf : mm_x o (.iadd) pc L S h = some F) (k : mm_J p l e R s m args below meth c cells slots Q g F) : mm_J p l e R s m args below meth c cells slots Q g (pc, L, S, h) := by
  have e9 : n = 1 := Nat.eq_of_beq_eq_true hn
  subst e9
  obtain ⟨hx, hb, hown, hts, hZ, hR, hcs⟩ := X
  obtain ⟨x, y, T, rfl, hf⟩ := me_2i hf
  cases hf
  intro H locs ls hI hS hl hv
  exact lv_iadd hx hb hd (k H locs ls hI hS hl hv)
theorem sx_isub (X : mm_Cx p R s m args c cells slots g o cc) (hd : decode cc pc = .ok (.isub, n)) (hn : mm_len (.isub) n = true) (hf : mm_x o (.isub) pc L S h = some F) (k : mm_J p l e R s m args below meth c cells slots Q g F) : mm_J p l e R s m args below meth c cells slots Q g (pc, L, S, h) := by
  have e9 : n = 1 := Nat.eq_of_beq_eq_true hn
  subst e9
  obtain ⟨hx, hb, hown, hts, hZ, hR, hcs⟩ := X
  obtain ⟨x, y, T, rfl, hf⟩ := me_2i hf
  cases hf
  intro H locs ls hI hS hl hv
  exact lv_isub hx hb hd (k H locs ls hI hS hl hv)
theorem sx_imul (X : mm_Cx p R s m args c cells slots g o cc) (hd : decode cc pc = .ok (.imul, n)) (hn : mm_len (.imul) n = true) (hf : mm_x o (.imul) pc L S h = some F) (k : mm_J p l e R s m args below meth c cells slots Q g F) : mm_J p l e R s m args below meth c cells slots Q g (pc, L, S, h) := by
  have e9 : n = 1 := Nat.eq_of_beq_eq_true hn
  subst e9
  obtain ⟨hx, hb, hown, hts, hZ, hR, hcs⟩ := X
  obtain ⟨x, y, T, rfl, hf⟩ := me_2i hf
  cases hf
  intro H locs ls hI hS hl hv
  exact lv_imul hx hb hd (k H locs ls hI hS hl hv)
theorem sx_iand (X : mm_Cx p R s m args c cells slots g o cc) (hd : decode cc pc = .ok (.iand, n)) (hn : mm_len (.iand) n = true) (hf : mm_x o (.iand) pc L S h = some F) (k : mm_J p l e R s m args below meth c cells slots Q g F) : mm_J p l e R s m args below meth c cells slots Q g (pc, L, S, h) := by
  have e9 : n = 1 := Nat.eq_of_beq_eq_true hn
  subst e9
  obtain ⟨hx, hb, hown, hts, hZ, hR, hcs⟩ := X
  obtain ⟨x, y, T, rfl, hf⟩ := me_2i hf
  cases hf
  intro H locs ls hI hS hl hv
  exact lv_iand hx hb hd (k H locs ls hI hS hl hv)
theorem sx_ior (X : mm_Cx p R s m args c cells slots g o cc) (hd : decode cc pc = .ok (.ior, n)) (hn : mm_len (.ior) n = true) (hf : mm_x o (.ior) pc L S h = some F) (k : mm_J p l e R s m args below meth c cells slots Q g F) : mm_J p l e R s m args below meth c cells slots Q g (pc, L, S, h) := by
  have e9 : n = 1 := Nat.eq_of_beq_eq_true hn
  subst e9
  obtain ⟨hx, hb, hown, hts, hZ, hR, hcs⟩ := X
  obtain ⟨x, y, T, rfl, hf⟩ := me_2i hf
  cases hf
  intro H locs ls hI hS hl hv
  exact lv_ior hx hb hd (k H locs ls hI hS hl hv)
theorem sx_ixor (X : mm_Cx p R s m args c cells slots g o cc) (hd : decode cc pc = .ok (.ixor, n)) (hn : mm_len (.ixor) n = true) (hf : mm_x o (.ixor) pc L S h = some F) (k : mm_J p l e R s m args below meth c cells slots Q g F) : mm_J p l e R s m args below meth c cells slots Q g (pc, L, S, h) := by
  have e9 : n = 1 := Nat.eq_of_beq_eq_true hn
  subst e9
  obtain ⟨hx, hb, hown, hts, hZ, hR, hcs⟩ := X
  obtain ⟨x, y, T, rfl, hf⟩ := me_2i hf
  cases hf
  intro H locs ls hI hS hl hv
  exact lv_ixor hx hb hd (k H locs ls hI hS hl hv)
theorem sx_ishl (X : mm_Cx p R s m args c cells slots g o cc) (hd : decode cc pc = .ok (.ishl, n)) (hn : mm_len (.ishl) n = true) (hf : mm_x o (.ishl) pc L S h = some F) (k : mm_J p l e R s m args below meth c cells slots Q g F) : mm_J p l e R s m args below meth c cells slots Q g (pc, L, S, h) := by
  have e9 : n = 1 := Nat.eq_of_beq_eq_true hn
  subst e9
  obtain ⟨hx, hb, hown, hts, hZ, hR, hcs⟩ := X
  obtain ⟨x, y, T, rfl, hf⟩ := me_2i hf
  cases hf
  intro H locs ls hI hS hl hv
  exact lv_ishl hx hb hd (k H locs ls hI hS hl hv)
theorem sx_ishr (X : mm_Cx p R s m args c cells slots g o cc) (hd : decode cc pc = .ok (.ishr, n)) (hn : mm_len (.ishr) n = true) (hf : mm_x o (.ishr) pc L S h = some F) (k : mm_J p l e R s m args below meth c cells slots Q g F) : mm_J p l e R s m args below meth c cells slots Q g (pc, L, S, h) := by
  have e9 : n = 1 := Nat.eq_of_beq_eq_true hn
  subst e9
  obtain ⟨hx, hb, hown, hts, hZ, hR, hcs⟩ := X
  obtain ⟨x, y, T, rfl, hf⟩ := me_2i hf
  cases hf
  intro H locs ls hI hS hl hv
  exact lv_ishr hx hb hd (k H locs ls hI hS hl hv)
theorem sx_iushr (X : mm_Cx p R s m args c cells slots g o cc) (hd : decode cc pc = .ok (.iushr, n)) (hn : mm_len (.iushr) n = true) (hf : mm_x o (.iushr) pc L S h = some F) (k : mm_J p l e R s m args below meth c cells slots Q g F) : mm_J p l e R s m args below meth c cells slots Q g (pc, L, S, h) := by
  have e9 : n = 1 := Nat.eq_of_beq_eq_true hn
  subst e9
  obtain ⟨hx, hb, hown, hts, hZ, hR, hcs⟩ := X
  obtain ⟨x, y, T, rfl, hf⟩ := me_2i hf
  cases hf
  intro H locs ls hI hS hl hv
  exact lv_iushr hx hb hd rfl (k H locs ls hI hS hl hv)
theorem sx_idiv (X : mm_Cx p R s m args c cells slots g o cc) (hd : decode cc pc = .ok (.idiv, n)) (hn : mm_len (.idiv) n = true) (hf : mm_x o (.idiv) pc L S h = some F) (k : mm_J p l e R s m args below meth c cells slots Q g F) : mm_J p l e R s m args below meth c cells slots Q g (pc, L, S, h) := by
  have e9 : n = 1 := Nat.eq_of_beq_eq_true hn
  subst e9
  obtain ⟨hx, hb, hown, hts, hZ, hR, hcs⟩ := X
  obtain ⟨x, y, T, rfl, hf⟩ := me_2i hf
  obtain ⟨h0, hf⟩ := me_if hf
  cases hf
  intro H locs ls hI hS hl hv
  exact lv_idiv hx hb hd h0 (k H locs ls hI hS hl hv)
theorem sx_irem (X : mm_Cx p R s m args c cells slots g o cc) (hd : decode cc pc = .ok (.irem, n)) (hn : mm_len (.irem) n = true) (hf : mm_x o (.irem) pc L S h = some F) (k : mm_J p l e R s m args below meth c cells slots Q g F) : mm_J p l e R s m args below meth c cells slots Q g (pc, L, S, h) := by
  have e9 : n = 1 := Nat.eq_of_beq_eq_true hn
  subst e9
  obtain ⟨hx, hb, hown, hts, hZ, hR, hcs⟩ := X
  obtain ⟨x, y, T, rfl, hf⟩ := me_2i hf
  obtain ⟨h0, hf⟩ := me_if hf
  cases hf
  intro H locs ls hI hS hl hv
  exact lv_irem hx hb hd h0 (k H locs ls hI hS hl hv)
theorem sx_ineg (X : mm_Cx p R s m args c cells slots g o cc) (hd : decode cc pc = .ok (.ineg, n)) (hn : mm_len (.ineg) n = true) (hf : mm_x o (.ineg) pc L S h = some F) (k : mm_J p l e R s m args below meth c cells slots Q g F) : mm_J p l e R s m args below meth c cells slots Q g (pc, L, S, h) := by
  have e9 : n = 1 := Nat.eq_of_beq_eq_true hn
  subst e9
  obtain ⟨hx, hb, hown, hts, hZ, hR, hcs⟩ := X
  obtain ⟨x, T, rfl, hf⟩ := me_1i hf
  cases hf
  intro H locs ls hI hS hl hv
  exact lv_ineg hx hb hd (k H locs ls hI hS hl hv)
theorem sx_ladd (X : mm_Cx p R s m args c cells slots g o cc) (hd : decode cc pc = .ok (.ladd, n)) (hn : mm_len (.ladd) n = true) (hf : mm_x o (.ladd) pc L S h = some F) (k : mm_J p l e R s m args below meth c cells slots Q g F) : mm_J p l e R s m args below meth c cells slots Q g (pc, L, S, h) := by
  have e9 : n = 1 := Nat.eq_of_beq_eq_true hn
  subst e9
  obtain ⟨hx, hb, hown, hts, hZ, hR, hcs⟩ := X
  obtain ⟨x, y, T, rfl, hf⟩ := me_2l hf
  cases hf
  intro H locs ls hI hS hl hv
  exact lv_ladd hx hb hd (k H locs ls hI hS hl hv)
theorem sx_lsub (X : mm_Cx p R s m args c cells slots g o cc) (hd : decode cc pc = .ok (.lsub, n)) (hn : mm_len (.lsub) n = true) (hf : mm_x o (.lsub) pc L S h = some F) (k : mm_J p l e R s m args below meth c cells slots Q g F) : mm_J p l e R s m args below meth c cells slots Q g (pc, L, S, h) := by
  have e9 : n = 1 := Nat.eq_of_beq_eq_true hn
  subst e9
  obtain ⟨hx, hb, hown, hts, hZ, hR, hcs⟩ := X
  obtain ⟨x, y, T, rfl, hf⟩ := me_2l hf
  cases hf
  intro H locs ls hI hS hl hv
  exact lv_lsub hx hb hd (k H locs ls hI hS hl hv)
theorem sx_land (X : mm_Cx p R s m args c cells slots g o cc) (hd : decode cc pc = .ok (.land, n)) (hn : mm_len (.land) n = true) (hf : mm_x o (.land) pc L S h = some F) (k : mm_J p l e R s m args below meth c cells slots Q g F) : mm_J p l e R s m args below meth c cells slots Q g (pc, L, S, h) := by
  have e9 : n = 1 := Nat.eq_of_beq_eq_true hn
  subst e9
  obtain ⟨hx, hb, hown, hts, hZ, hR, hcs⟩ := X
  obtain ⟨x, y, T, rfl, hf⟩ := me_2l hf
  cases hf
  intro H locs ls hI hS hl hv
  exact lv_land hx hb hd (k H locs ls hI hS hl hv)
theorem sx_lor (X : mm_Cx p R s m args c cells slots g o cc) (hd : decode cc pc = .ok (.lor, n)) (hn : mm_len (.lor) n = true) (hf : mm_x o (.lor) pc L S h = some F) (k : mm_J p l e R s m args below meth c cells slots Q g F) : mm_J p l e R s m args below meth c cells slots Q g (pc, L, S, h) := by
  have e9 : n = 1 := Nat.eq_of_beq_eq_true hn
  subst e9
  obtain ⟨hx, hb, hown, hts, hZ, hR, hcs⟩ := X
  obtain ⟨x, y, T, rfl, hf⟩ := me_2l hf
  cases hf
  intro H locs ls hI hS hl hv
  exact lv_lor hx hb hd (k H locs ls hI hS hl hv)
theorem sx_lxor (X : mm_Cx p R s m args c cells slots g o cc) (hd : decode cc pc = .ok (.lxor, n)) (hn : mm_len (.lxor) n = true) (hf : mm_x o (.lxor) pc L S h = some F) (k : mm_J p l e R s m args below meth c cells slots Q g F) : mm_J p l e R s m args below meth c cells slots Q g (pc, L, S, h) := by
  have e9 : n = 1 := Nat.eq_of_beq_eq_true hn
  subst e9
  obtain ⟨hx, hb, hown, hts, hZ, hR, hcs⟩ := X
  obtain ⟨x, y, T, rfl, hf⟩ := me_2l hf
  cases hf
  intro H locs ls hI hS hl hv
  exact lv_lxor hx hb hd (k H locs ls hI hS hl hv)
theorem sx_lneg (X : mm_Cx p R s m args c cells slots g o cc) (hd : decode cc pc = .ok (.lneg, n)) (hn : mm_len (.lneg) n = true) (hf : mm_x o (.lneg) pc L S h = some F) (k : mm_J p l e R s m args below meth c cells slots Q g F) : mm_J p l e R s m args below meth c cells slots Q g (pc, L, S, h) := by
  have e9 : n = 1 := Nat.eq_of_beq_eq_true hn
  subst e9
  obtain ⟨hx, hb, hown, hts, hZ, hR, hcs⟩ := X
  obtain ⟨x, T, rfl, hf⟩ := me_1l hf
  cases hf
  intro H locs ls hI hS hl hv
  exact lv_lneg hx hb hd (k H locs ls hI hS hl hv)
theorem sx_lshl (X : mm_Cx p R s m args c cells slots g o cc) (hd : decode cc pc = .ok (.lshl, n)) (hn : mm_len (.lshl) n = true) (hf : mm_x o (.lshl) pc L S h = some F) (k : mm_J p l e R s m args below meth c cells slots Q g F) : mm_J p l e R s m args below meth c cells slots Q g (pc, L, S, h) := by
  have e9 : n = 1 := Nat.eq_of_beq_eq_true hn
  subst e9
  obtain ⟨hx, hb, hown, hts, hZ, hR, hcs⟩ := X
  obtain ⟨x, y, T, rfl, hf⟩ := me_il hf
  cases hf
  intro H locs ls hI hS hl hv
  exact lv_lshl hx hb hd rfl (k H locs ls hI hS hl hv)
theorem sx_lushr (X : mm_Cx p R s m args c cells slots g o cc) (hd : decode cc pc = .ok (.lushr, n)) (hn : mm_len (.lushr) n = true) (hf : mm_x o (.lushr) pc L S h = some F) (k : mm_J p l e R s m args below meth c cells slots Q g F) : mm_J p l e R s m args below meth c cells slots Q g (pc, L, S, h) := by
  have e9 : n = 1 := Nat.eq_of_beq_eq_true hn
  subst e9
  obtain ⟨hx, hb, hown, hts, hZ, hR, hcs⟩ := X
  obtain ⟨x, y, T, rfl, hf⟩ := me_il hf
  cases hf
  intro H locs ls hI hS hl hv
  exact lv_lushr hx hb hd rfl (k H locs ls hI hS hl hv)
theorem sx_lcmp (X : mm_Cx p R s m args c cells slots g o cc) (hd : decode cc pc = .ok (.lcmp, n)) (hn : mm_len (.lcmp) n = true) (hf : mm_x o (.lcmp) pc L S h = some F) (k : mm_J p l e R s m args below meth c cells slots Q g F) : mm_J p l e R s m args below meth c cells slots Q g (pc, L, S, h) := by
  have e9 : n = 1 := Nat.eq_of_beq_eq_true hn
  subst e9
  obtain ⟨hx, hb, hown, hts, hZ, hR, hcs⟩ := X
  obtain ⟨x, y, T, rfl, hf⟩ := me_2l hf
  cases hf
  intro H locs ls hI hS hl hv
  exact W.lcmp hx hb hd (k H locs ls hI hS hl hv)
theorem sx_i2l (X : mm_Cx p R s m args c cells slots g o cc) (hd : decode cc pc = .ok (.i2l, n)) (hn : mm_len (.i2l) n = true) (hf : mm_x o (.i2l) pc L S h = some F) (k : mm_J p l e R s m args below meth c cells slots Q g F) : mm_J p l e R s m args below meth c cells slots Q g (pc, L, S, h) := by
  have e9 : n = 1 := Nat.eq_of_beq_eq_true hn
  subst e9
  obtain ⟨hx, hb, hown, hts, hZ, hR, hcs⟩ := X
  obtain ⟨x, T, rfl, hf⟩ := me_1i hf
  cases hf
  intro H locs ls hI hS hl hv
  exact lv_i2l hx hb hd rfl (k H locs ls hI hS hl hv)
theorem sx_l2i (X : mm_Cx p R s m args c cells slots g o cc) (hd : decode cc pc = .ok (.l2i, n)) (hn : mm_len (.l2i) n = true) (hf : mm_x o (.l2i) pc L S h = some F) (k : mm_J p l e R s m args below meth c cells slots Q g F) : mm_J p l e R s m args below meth c cells slots Q g (pc, L, S, h) := by
  have e9 : n = 1 := Nat.eq_of_beq_eq_true hn
  subst e9
  obtain ⟨hx, hb, hown, hts, hZ, hR, hcs⟩ := X
  obtain ⟨x, T, rfl, hf⟩ := me_1l hf
  cases hf
  intro H locs ls hI hS hl hv
  exact lv_l2i hx hb hd rfl (k H locs ls hI hS hl hv)
theorem sx_i2b (X : mm_Cx p R s m args c cells slots g o cc) (hd : decode cc pc = .ok (.i2b, n)) (hn : mm_len (.i2b) n = true) (hf : mm_x o (.i2b) pc L S h = some F) (k : mm_J p l e R s m args below meth c cells slots Q g F) : mm_J p l e R s m args below meth c cells slots Q g (pc, L, S, h) := by
  have e9 : n = 1 := Nat.eq_of_beq_eq_true hn
  subst e9
  obtain ⟨hx, hb, hown, hts, hZ, hR, hcs⟩ := X
  obtain ⟨x, T, rfl, hf⟩ := me_1i hf
  cases hf
  intro H locs ls hI hS hl hv
  exact lv_i2b hx hb hd rfl (k H locs ls hI hS hl hv)
theorem sx_i2s (X : mm_Cx p R s m args c cells slots g o cc) (hd : decode cc pc = .ok (.i2s, n)) (hn : mm_len (.i2s) n = true) (hf : mm_x o (.i2s) pc L S h = some F) (k : mm_J p l e R s m args below meth c cells slots Q g F) : mm_J p l e R s m args below meth c cells slots Q g (pc, L, S, h) := by
  have e9 : n = 1 := Nat.eq_of_beq_eq_true hn
  subst e9
  obtain ⟨hx, hb, hown, hts, hZ, hR, hcs⟩ := X
  obtain ⟨x, T, rfl, hf⟩ := me_1i hf
  cases hf
  intro H locs ls hI hS hl hv
  exact lv_i2s hx hb hd rfl (k H locs ls hI hS hl hv)
theorem sx_dup (X : mm_Cx p R s m args c cells slots g o cc) (hd : decode cc pc = .ok (.dup, n)) (hn : mm_len (.dup) n = true) (hf : mm_x o (.dup) pc L S h = some F) (k : mm_J p l e R s m args below meth c cells slots Q g F) : mm_J p l e R s m args below meth c cells slots Q g (pc, L, S, h) := by
  have e9 : n = 1 := Nat.eq_of_beq_eq_true hn
  subst e9
  obtain ⟨hx, hb, hown, hts, hZ, hR, hcs⟩ := X
  unfold mm_x at hf
  simp only at hf
  split at hf
  · obtain ⟨hc, hf⟩ := me_bif hf
    cases hf
    intro H locs ls hI hS hl hv
    exact lv_dup hx hb hd (by rw [mm_v_cat]; exact Nat.eq_of_beq_eq_true hc) (k H locs ls hI hS hl hv)
  · cases hf
theorem sx_dup2 (X : mm_Cx p R s m args c cells slots g o cc) (hd : decode cc pc = .ok (.dup2, n)) (hn : mm_len (.dup2) n = true) (hf : mm_x o (.dup2) pc L S h = some F) (k : mm_J p l e R s m args below meth c cells slots Q g F) : mm_J p l e R s m args below meth c cells slots Q g (pc, L, S, h) := by
  have e9 : n = 1 := Nat.eq_of_beq_eq_true hn
  subst e9
  obtain ⟨hx, hb, hown, hts, hZ, hR, hcs⟩ := X
  unfold mm_x at hf
  simp only at hf
  split at hf
  · obtain ⟨hc, hf⟩ := me_bif hf
    rw [Bool.and_eq_true] at hc
    cases hf
    intro H locs ls hI hS hl hv
    exact lv_dup2_11 hx hb hd (by rw [mm_v_cat]; exact Nat.eq_of_beq_eq_true hc.1) (by rw [mm_v_cat]; exact Nat.eq_of_beq_eq_true hc.2) (k H locs ls hI hS hl hv)
  · cases hf
theorem sx_goto {d : Int} (X : mm_Cx p R s m args c cells slots g o cc) (hd : decode cc pc = .ok (.goto d, n)) (hn : mm_len (.goto d) n = true) (hf : mm_x o (.goto d) pc L S h = some F) (k : mm_J p l e R s m args below meth c cells slots Q g F) : mm_J p l e R s m args below meth c cells slots Q g (pc, L, S, h) := by
  have e9 : n = 3 := Nat.eq_of_beq_eq_true hn
  subst e9
  obtain ⟨hx, hb, hown, hts, hZ, hR, hcs⟩ := X
  obtain ⟨t, ht, hf⟩ := me_to hf
  cases hf
  intro H locs ls hI hS hl hv
  exact lv_goto hx hb hd ht (k H locs ls hI hS hl hv)
theorem sx_ifCond_eq {d : Int} (X : mm_Cx p R s m args c cells slots g o cc) (hd : decode cc pc = .ok (.ifCond .eq d, n)) (hn : mm_len (.ifCond .eq d) n = true) (hf : mm_x o (.ifCond .eq d) pc L S h = some F) (k : mm_J p l e R s m args below meth c cells slots Q g F) : mm_J p l e R s m args below meth c cells slots Q g (pc, L, S, h) := by
  have e9 : n = 3 := Nat.eq_of_beq_eq_true hn
  subst e9
  obtain ⟨hx, hb, hown, hts, hZ, hR, hcs⟩ := X
  obtain ⟨x, T, rfl, hf⟩ := me_1i hf
  obtain ⟨t, ht, hf⟩ := me_to hf
  cases hf
  intro H locs ls hI hS hl hv
  have kt : mm_cond .eq x 0 = true → W p l e R s m args below meth c H locs cells slots Q (F0 m t ls (T.map (mm_v g.2.1))) := fun q => by have k2 := k H locs ls hI hS hl hv; rw [q] at k2; exact k2
  have kf : mm_cond .eq x 0 = false → W p l e R s m args below meth c H locs cells slots Q (F0 m (pc + 3) ls (T.map (mm_v g.2.1))) := fun q => by have k2 := k H locs ls hI hS hl hv; rw [q] at k2; exact k2
  refine lv_if_eq hx hb hd ht (fun q => kt (by simp [mm_cond, q])) (fun q => kf (by simp [mm_cond, q]))
theorem sx_ifCond_ne {d : Int} (X : mm_Cx p R s m args c cells slots g o cc) (hd : decode cc pc = .ok (.ifCond .ne d, n)) (hn : mm_len (.ifCond .ne d) n = true) (hf : mm_x o (.ifCond .ne d) pc L S h = some F) (k : mm_J p l e R s m args below meth c cells slots Q g F) : mm_J p l e R s m args below meth c cells slots Q g (pc, L, S, h) := by
  have e9 : n = 3 := Nat.eq_of_beq_eq_true hn
  subst e9
  obtain ⟨hx, hb, hown, hts, hZ, hR, hcs⟩ := X
  obtain ⟨x, T, rfl, hf⟩ := me_1i hf
  obtain ⟨t, ht, hf⟩ := me_to hf
  cases hf
  intro H locs ls hI hS hl hv
  have kt : mm_cond .ne x 0 = true → W p l e R s m args below meth c H locs cells slots Q (F0 m t ls (T.map (mm_v g.2.1))) := fun q => by have k2 := k H locs ls hI hS hl hv; rw [q] at k2; exact k2
  have kf : mm_cond .ne x 0 = false → W p l e R s m args below meth c H locs cells slots Q (F0 m (pc + 3) ls (T.map (mm_v g.2.1))) := fun q => by have k2 := k H locs ls hI hS hl hv; rw [q] at k2; exact k2
  refine lv_if_ne hx hb hd ht (fun q => kt (by simp [mm_cond, q])) (fun q => kf (by simp [mm_cond, q]))
theorem sx_ifCond_lt {d : Int} (X : mm_Cx p R s m args c cells slots g o cc) (hd : decode cc pc = .ok (.ifCond .lt d, n)) (hn : mm_len (.ifCond .lt d) n = true) (hf : mm_x o (.ifCond .lt d) pc L S h = some F) (k : mm_J p l e R s m args below meth c cells slots Q g F) : mm_J p l e R s m args below meth c cells slots Q g (pc, L, S, h) := by
  have e9 : n = 3 := Nat.eq_of_beq_eq_true hn
  subst e9
  obtain ⟨hx, hb, hown, hts, hZ, hR, hcs⟩ := X
  obtain ⟨x, T, rfl, hf⟩ := me_1i hf
  obtain ⟨t, ht, hf⟩ := me_to hf
  cases hf
  intro H locs ls hI hS hl hv
  have kt : mm_cond .lt x 0 = true → W p l e R s m args below meth c H locs cells slots Q (F0 m t ls (T.map (mm_v g.2.1))) := fun q => by have k2 := k H locs ls hI hS hl hv; rw [q] at k2; exact k2
  have kf : mm_cond .lt x 0 = false → W p l e R s m args below meth c H locs cells slots Q (F0 m (pc + 3) ls (T.map (mm_v g.2.1))) := fun q => by have k2 := k H locs ls hI hS hl hv; rw [q] at k2; exact k2
  refine lv_if_lt hx hb hd ht (fun q => kt (by simp [mm_cond, q])) (fun q => kf (by simp [mm_cond, q]))
theorem sx_ifCond_ge {d : Int} (X : mm_Cx p R s m args c cells slots g o cc) (hd : decode cc pc = .ok (.ifCond .ge d, n)) (hn : mm_len (.ifCond .ge d) n = true) (hf : mm_x o (.ifCond .ge d) pc L S h = some F) (k : mm_J p l e R s m args below meth c cells slots Q g F) : mm_J p l e R s m args below meth c cells slots Q g (pc, L, S, h) := by
  have e9 : n = 3 := Nat.eq_of_beq_eq_true hn
  subst e9
  obtain ⟨hx, hb, hown, hts, hZ, hR, hcs⟩ := X
  obtain ⟨x, T, rfl, hf⟩ := me_1i hf
  obtain ⟨t, ht, hf⟩ := me_to hf
  cases hf
  intro H locs ls hI hS hl hv
  have kt : mm_cond .ge x 0 = true → W p l e R s m args below meth c H locs cells slots Q (F0 m t ls (T.map (mm_v g.2.1))) := fun q => by have k2 := k H locs ls hI hS hl hv; rw [q] at k2; exact k2
  have kf : mm_cond .ge x 0 = false → W p l e R s m args below meth c H locs cells slots Q (F0 m (pc + 3) ls (T.map (mm_v g.2.1))) := fun q => by have k2 := k H locs ls hI hS hl hv; rw [q] at k2; exact k2
  refine lv_if_ge hx hb hd ht (fun q => kt (by simp [mm_cond, q])) (fun q => kf (by simp [mm_cond, q]))
theorem sx_ifCond_gt {d : Int} (X : mm_Cx p R s m args c cells slots g o cc) (hd : decode cc pc = .ok (.ifCond .gt d, n)) (hn : mm_len (.ifCond .gt d) n = true) (hf : mm_x o (.ifCond .gt d) pc L S h = some F) (k : mm_J p l e R s m args below meth c cells slots Q g F) : mm_J p l e R s m args below meth c cells slots Q g (pc, L, S, h) := by
  have e9 : n = 3 := Nat.eq_of_beq_eq_true hn
  subst e9
  obtain ⟨hx, hb, hown, hts, hZ, hR, hcs⟩ := X
  obtain ⟨x, T, rfl, hf⟩ := me_1i hf
  obtain ⟨t, ht, hf⟩ := me_to hf
  cases hf
  intro H locs ls hI hS hl hv
  have kt : mm_cond .gt x 0 = true → W p l e R s m args below meth c H locs cells slots Q (F0 m t ls (T.map (mm_v g.2.1))) := fun q => by have k2 := k H locs ls hI hS hl hv; rw [q] at k2; exact k2
  have kf : mm_cond .gt x 0 = false → W p l e R s m args below meth c H locs cells slots Q (F0 m (pc + 3) ls (T.map (mm_v g.2.1))) := fun q => by have k2 := k H locs ls hI hS hl hv; rw [q] at k2; exact k2
  refine lv_if_gt hx hb hd ht (fun q => kt (by simp [mm_cond, q])) (fun q => kf (by simp [mm_cond, q]))
theorem sx_ifCond_le {d : Int} (X : mm_Cx p R s m args c cells slots g o cc) (hd : decode cc pc = .ok (.ifCond .le d, n)) (hn : mm_len (.ifCond .le d) n = true) (hf : mm_x o (.ifCond .le d) pc L S h = some F) (k : mm_J p l e R s m args below meth c cells slots Q g F) : mm_J p l e R s m args below meth c cells slots Q g (pc, L, S, h) := by
  have e9 : n = 3 := Nat.eq_of_beq_eq_true hn
  subst e9
  obtain ⟨hx, hb, hown, hts, hZ, hR, hcs⟩ := X
  obtain ⟨x, T, rfl, hf⟩ := me_1i hf
  obtain ⟨t, ht, hf⟩ := me_to hf
  cases hf
  intro H locs ls hI hS hl hv
  have kt : mm_cond .le x 0 = true → W p l e R s m args below meth c H locs cells slots Q (F0 m t ls (T.map (mm_v g.2.1))) := fun q => by have k2 := k H locs ls hI hS hl hv; rw [q] at k2; exact k2
  have kf : mm_cond .le x 0 = false → W p l e R s m args below meth c H locs cells slots Q (F0 m (pc + 3) ls (T.map (mm_v g.2.1))) := fun q => by have k2 := k H locs ls hI hS hl hv; rw [q] at k2; exact k2
  refine lv_if_le hx hb hd ht (fun q => kt (by simp [mm_cond, q])) (fun q => kf (by simp [mm_cond, q]))
theorem sx_if_icmp_eq {d : Int} (X : mm_Cx p R s m args c cells slots g o cc) (hd : decode cc pc = .ok (.if_icmp .eq d, n)) (hn : mm_len (.if_icmp .eq d) n = true) (hf : mm_x o (.if_icmp .eq d) pc L S h = some F) (k : mm_J p l e R s m args below meth c cells slots Q g F) : mm_J p l e R s m args below meth c cells slots Q g (pc, L, S, h) := by
  have e9 : n = 3 := Nat.eq_of_beq_eq_true hn
  subst e9
  obtain ⟨hx, hb, hown, hts, hZ, hR, hcs⟩ := X
  obtain ⟨x, y, T, rfl, hf⟩ := me_2i hf
  obtain ⟨t, ht, hf⟩ := me_to hf
  cases hf
  intro H locs ls hI hS hl hv
  have kt : mm_cond .eq x y = true → W p l e R s m args below meth c H locs cells slots Q (F0 m t ls (T.map (mm_v g.2.1))) := fun q => by have k2 := k H locs ls hI hS hl hv; rw [q] at k2; exact k2
  have kf : mm_cond .eq x y = false → W p l e R s m args below meth c H locs cells slots Q (F0 m (pc + 3) ls (T.map (mm_v g.2.1))) := fun q => by have k2 := k H locs ls hI hS hl hv; rw [q] at k2; exact k2
  refine lv_icmp_eq hx hb hd ht (fun q => kt (by simp [mm_cond, q])) (fun q => kf (by simp [mm_cond, q]))
theorem sx_if_icmp_ne {d : Int} (X : mm_Cx p R s m args c cells slots g o cc) (hd : decode cc pc = .ok (.if_icmp .ne d, n)) (hn : mm_len (.if_icmp .ne d) n = true) (hf : mm_x o (.if_icmp .ne d) pc L S h = some F) (k : mm_J p l e R s m args below meth c cells slots Q g F) : mm_J p l e R s m args below meth c cells slots Q g (pc, L, S, h) := by
  have e9 : n = 3 := Nat.eq_of_beq_eq_true hn
  subst e9
  obtain ⟨hx, hb, hown, hts, hZ, hR, hcs⟩ := X
  obtain ⟨x, y, T, rfl, hf⟩ := me_2i hf
  obtain ⟨t, ht, hf⟩ := me_to hf
  cases hf
  intro H locs ls hI hS hl hv
  have kt : mm_cond .ne x y = true → W p l e R s m args below meth c H locs cells slots Q (F0 m t ls (T.map (mm_v g.2.1))) := fun q => by have k2 := k H locs ls hI hS hl hv; rw [q] at k2; exact k2
  have kf : mm_cond .ne x y = false → W p l e R s m args below meth c H locs cells slots Q (F0 m (pc + 3) ls (T.map (mm_v g.2.1))) := fun q => by have k2 := k H locs ls hI hS hl hv; rw [q] at k2; exact k2
  refine lv_icmp_ne hx hb hd ht (fun q => kt (by simp [mm_cond, q])) (fun q => kf (by simp [mm_cond, q]))
theorem sx_if_icmp_lt {d : Int} (X : mm_Cx p R s m args c cells slots g o cc) (hd : decode cc pc = .ok (.if_icmp .lt d, n)) (hn : mm_len (.if_icmp .lt d) n = true) (hf : mm_x o (.if_icmp .lt d) pc L S h = some F) (k : mm_J p l e R s m args below meth c cells slots Q g F) : mm_J p l e R s m args below meth c cells slots Q g (pc, L, S, h) := by
  have e9 : n = 3 := Nat.eq_of_beq_eq_true hn
  subst e9
  obtain ⟨hx, hb, hown, hts, hZ, hR, hcs⟩ := X
  obtain ⟨x, y, T, rfl, hf⟩ := me_2i hf
  obtain ⟨t, ht, hf⟩ := me_to hf
  cases hf
  intro H locs ls hI hS hl hv
  have kt : mm_cond .lt x y = true → W p l e R s m args below meth c H locs cells slots Q (F0 m t ls (T.map (mm_v g.2.1))) := fun q => by have k2 := k H locs ls hI hS hl hv; rw [q] at k2; exact k2
  have kf : mm_cond .lt x y = false → W p l e R s m args below meth c H locs cells slots Q (F0 m (pc + 3) ls (T.map (mm_v g.2.1))) := fun q => by have k2 := k H locs ls hI hS hl hv; rw [q] at k2; exact k2
  refine lv_icmp_lt hx hb hd ht (fun q => kt (by simp [mm_cond, q])) (fun q => kf (by simp [mm_cond, q]))
theorem sx_if_icmp_ge {d : Int} (X : mm_Cx p R s m args c cells slots g o cc) (hd : decode cc pc = .ok (.if_icmp .ge d, n)) (hn : mm_len (.if_icmp .ge d) n = true) (hf : mm_x o (.if_icmp .ge d) pc L S h = some F) (k : mm_J p l e R s m args below meth c cells slots Q g F) : mm_J p l e R s m args below meth c cells slots Q g (pc, L, S, h) := by
  have e9 : n = 3 := Nat.eq_of_beq_eq_true hn
  subst e9
  obtain ⟨hx, hb, hown, hts, hZ, hR, hcs⟩ := X
  obtain ⟨x, y, T, rfl, hf⟩ := me_2i hf
  obtain ⟨t, ht, hf⟩ := me_to hf
  cases hf
  intro H locs ls hI hS hl hv
  have kt : mm_cond .ge x y = true → W p l e R s m args below meth c H locs cells slots Q (F0 m t ls (T.map (mm_v g.2.1))) := fun q => by have k2 := k H locs ls hI hS hl hv; rw [q] at k2; exact k2
  have kf : mm_cond .ge x y = false → W p l e R s m args below meth c H locs cells slots Q (F0 m (pc + 3) ls (T.map (mm_v g.2.1))) := fun q => by have k2 := k H locs ls hI hS hl hv; rw [q] at k2; exact k2
  refine lv_icmp_ge hx hb hd ht (fun q => kt (by simp [mm_cond, q])) (fun q => kf (by simp [mm_cond, q]))
theorem sx_if_icmp_gt {d : Int} (X : mm_Cx p R s m args c cells slots g o cc) (hd : decode cc pc = .ok (.if_icmp .gt d, n)) (hn : mm_len (.if_icmp .gt d) n = true) (hf : mm_x o (.if_icmp .gt d) pc L S h = some F) (k : mm_J p l e R s m args below meth c cells slots Q g F) : mm_J p l e R s m args below meth c cells slots Q g (pc, L, S, h) := by
  have e9 : n = 3 := Nat.eq_of_beq_eq_true hn
  subst e9
  obtain ⟨hx, hb, hown, hts, hZ, hR, hcs⟩ := X
  obtain ⟨x, y, T, rfl, hf⟩ := me_2i hf
  obtain ⟨t, ht, hf⟩ := me_to hf
  cases hf
  intro H locs ls hI hS hl hv
  have kt : mm_cond .gt x y = true → W p l e R s m args below meth c H locs cells slots Q (F0 m t ls (T.map (mm_v g.2.1))) := fun q => by have k2 := k H locs ls hI hS hl hv; rw [q] at k2; exact k2
  have kf : mm_cond .gt x y = false → W p l e R s m args below meth c H locs cells slots Q (F0 m (pc + 3) ls (T.map (mm_v g.2.1))) := fun q => by have k2 := k H locs ls hI hS hl hv; rw [q] at k2; exact k2
  refine lv_icmp_gt hx hb hd ht (fun q => kt (by simp [mm_cond, q])) (fun q => kf (by simp [mm_cond, q]))
theorem sx_if_icmp_le {d : Int} (X : mm_Cx p R s m args c cells slots g o cc) (hd : decode cc pc = .ok (.if_icmp .le d, n)) (hn : mm_len (.if_icmp .le d) n = true) (hf : mm_x o (.if_icmp .le d) pc L S h = some F) (k : mm_J p l e R s m args below meth c cells slots Q g F) : mm_J p l e R s m args below meth c cells slots Q g (pc, L, S, h) := by
  have e9 : n = 3 := Nat.eq_of_beq_eq_true hn
  subst e9
  obtain ⟨hx, hb, hown, hts, hZ, hR, hcs⟩ := X
  obtain ⟨x, y, T, rfl, hf⟩ := me_2i hf
  obtain ⟨t, ht, hf⟩ := me_to hf
  cases hf
  intro H locs ls hI hS hl hv
  have kt : mm_cond .le x y = true → W p l e R s m args below meth c H locs cells slots Q (F0 m t ls (T.map (mm_v g.2.1))) := fun q => by have k2 := k H locs ls hI hS hl hv; rw [q] at k2; exact k2
  have kf : mm_cond .le x y = false → W p l e R s m args below meth c H locs cells slots Q (F0 m (pc + 3) ls (T.map (mm_v g.2.1))) := fun q => by have k2 := k H locs ls hI hS hl hv; rw [q] at k2; exact k2
  refine lv_icmp_le hx hb hd ht (fun q => kt (by simp [mm_cond, q])) (fun q => kf (by simp [mm_cond, q]))
theorem sx_tableswitch {d lo hi : Int} {offs : Array Int} (X : mm_Cx p R s m args c cells slots g o cc) (hd : decode cc pc = .ok (.tableswitch d lo hi offs, n)) (hn : mm_len (.tableswitch d lo hi offs) n = true) (hf : mm_x o (.tableswitch d lo hi offs) pc L S h = some F) (k : mm_J p l e R s m args below meth c cells slots Q g F) : mm_J p l e R s m args below meth c cells slots Q g (pc, L, S, h) := by
  obtain ⟨hx, hb, hown, hts, hZ, hR, hcs⟩ := X
  obtain ⟨x, T, rfl, hg⟩ := me_1i hf
  clear hf
  have hf := hg
  clear hg
  split at hf
  · rename_i hc
    obtain ⟨t, ht, hf⟩ := me_to hf
    cases hf
    intro H locs ls hI hS hl hv
    exact lv_tableOut hx hb hd hc ht (k H locs ls hI hS hl hv)
  · rename_i hc
    split at hf
    · rename_i off ho
      obtain ⟨t, ht, hf⟩ := me_to hf
      cases hf
      intro H locs ls hI hS hl hv
      exact lv_tableIn hx hb hd (fun q => hc (Or.inl q)) (fun q => hc (Or.inr q)) ho ht (k H locs ls hI hS hl hv)
    · cases hf
theorem sx_lookupswitch {d : Int} {ps : Array (Int × Int)} (X : mm_Cx p R s m args c cells slots g o cc) (hd : decode cc pc = .ok (.lookupswitch d ps, n)) (hn : mm_len (.lookupswitch d ps) n = true) (hf : mm_x o (.lookupswitch d ps) pc L S h = some F) (k : mm_J p l e R s m args below meth c cells slots Q g F) : mm_J p l e R s m args below meth c cells slots Q g (pc, L, S, h) := by
  obtain ⟨hx, hb, hown, hts, hZ, hR, hcs⟩ := X
  obtain ⟨x, T, rfl, hf⟩ := me_1i hf
  obtain ⟨hp, hf⟩ := me_bif hf
  obtain ⟨t, ht, hf⟩ := me_to hf
  cases hf
  intro H locs ls hI hS hl hv
  exact lv_lookup hx hb hd hp rfl ht (k H locs ls hI hS hl hv)
theorem mm_flk {k : Nat} {z : Nat × Nat × Nat} (h : mm_find4 (mm_fT o) k = some z) : mm_Pf o (k, z) := by
  have h1 := mm_find4_mem h
  unfold mm_fT at h1
  have key : ∀ {a b : Nat} (x y : List (Nat × Nat × Nat × Nat)), (k, z) ∈ (bif Nat.blt a b then x else y) → (a < b ∧ (k, z) ∈ x) ∨ (b ≤ a ∧ (k, z) ∈ y) := by
    intro a b x y hh
    cases hb : Nat.blt a b with
    | true => rw [hb] at hh; exact Or.inl ⟨Nat.le_of_ble_eq_true hb, hh⟩
    | false =>
      rw [hb] at hh
      refine Or.inr ⟨?_, hh⟩
      rcases Nat.lt_or_ge a b with q | q
      · exact absurd ((Nat.ble_eq_true_of_le q).symm.trans hb) (by decide)
      · exact q
  rcases key _ _ h1 with ⟨q4, h1⟩ | ⟨q4, h1⟩
  · rcases key _ _ h1 with ⟨q2, h1⟩ | ⟨q2, h1⟩
    · rcases key _ _ h1 with ⟨q1, h1⟩ | ⟨q1, h1⟩
      · have e7 : o = 0 := by omega
        subst e7; exact mf_0 _ h1
      · have e7 : o = 1 := by omega
        subst e7; exact mf_1 _ h1
    · rcases key _ _ h1 with ⟨q3, h1⟩ | ⟨q3, h1⟩
      · have e7 : o = 2 := by omega
        subst e7; exact mf_2 _ h1
      · have e7 : o = 3 := by omega
        subst e7; exact mf_3 _ h1
  · rcases key _ _ h1 with ⟨q6, h1⟩ | ⟨q6, h1⟩
    · rcases key _ _ h1 with ⟨q5, h1⟩ | ⟨q5, h1⟩
      · have e7 : o = 4 := by omega
        subst e7; exact mf_4 _ h1
      · have e7 : o = 5 := by omega
        subst e7; exact mf_5 _ h1
    · rcases key _ _ h1 with ⟨q7, h1⟩ | ⟨q7, h1⟩
      · have e7 : o = 6 := by omega
        subst e7; exact mf_6 _ h1
      · rcases key _ _ h1 with ⟨q8, h1⟩ | ⟨q8, h1⟩
        · have e7 : o = 7 := by omega
          subst e7; exact mf_7 _ h1
        · exact absurd h1 (by unfold mm_fT_8; exact List.not_mem_nil)
theorem mm_clk {ci : Nat} {q : vw_C} (h : mm_K[ci]? = some q) : (∀ w ∈ u_ws q.1 q.2.1 q.2.2, w ∈ mm_TB) ∧ (∃ ty0 : Nat → FieldType, ∀ k, k < q.2.2 → parseFieldDescriptor (q.2.1 k).2.2.1 = some (ty0 k)) ∧ (∀ a, a < q.2.2 → ∀ b, b < q.2.2 → a ≠ b → (q.2.1 a).2.1 ≠ (q.2.1 b).2.1) := by
  match ci, h with
  | 0, h => cases h; exact ⟨mu_0, ⟨tyX0, tyX0_ok⟩, nmX0⟩
  | 1, h => cases h; exact ⟨mu_1, ⟨tyX1, tyX1_ok⟩, nmX1⟩
  | 2, h => cases h; exact ⟨mu_2, ⟨tyX2, tyX2_ok⟩, nmX2⟩
  | 3, h => cases h; exact ⟨mu_3, ⟨tyX3, tyX3_ok⟩, nmX3⟩
  | 4, h => cases h; exact ⟨mu_4, ⟨tyX4, tyX4_ok⟩, nmX4⟩
  | 5, h => cases h; exact ⟨mu_5, ⟨tyX5, tyX5_ok⟩, nmX5⟩
  | 6, h => cases h; exact ⟨mu_6, ⟨tyX6, tyX6_ok⟩, nmX6⟩
  | 7, h => cases h; exact ⟨mu_7, ⟨tyX7, tyX7_ok⟩, nmX7⟩
  | k + 8, h => simp [mm_K] at h
theorem sx_getfield {z : Nat} (X : mm_Cx p R s m args c cells slots g o cc) (hd : decode cc pc = .ok (.getfield z, n)) (hn : mm_len (.getfield z) n = true) (hf : mm_x o (.getfield z) pc L S h = some F) (k : mm_J p l e R s m args below meth c cells slots Q g F) : mm_J p l e R s m args below meth c cells slots Q g (pc, L, S, h) := by
  have e9 : n = 3 := Nat.eq_of_beq_eq_true hn
  subst e9
  obtain ⟨hx, hb, hown, hts, hZ, hR, hcs⟩ := X
  obtain ⟨q, T, rfl, hg⟩ := me_1r hf
  clear hf
  have hf := hg
  clear hg
  split at hf
  · rename_i ci j tt hfl
    obtain ⟨fs, hq, hf⟩ := me_ob hf
    split at hf
    · rename_i v hv9
      cases hf
      intro H locs ls hI hS hl hv
      obtain ⟨⟨C, T9, N⟩, p1, p2, p3, -⟩ := mm_flk hfl
      have hq1 := hI.2.2.2.ob hq
      exact va_get (D := g.1) (ci := ci) hx hb hts (mm_clk p1).1 hown hZ.1 hI.1 (q - 2) (mm_w_get hq1 hq) p1 j p2 (hts _ p3) (fun _ h9 => h9) (v := mm_v g.2.1 v) (by rw [List.getElem?_map, hv9]; rfl) hd (k H locs ls hI hS hl hv)
    · cases hf
  · cases hf
theorem mm_nb {x : Int32} (h : x = 0 ∨ x = 1) : narrow .boolean (.int x) = .int x ∧ fits .boolean (.int x) = true := by
  rcases h with rfl | rfl
  · exact ⟨rfl, rfl⟩
  · exact ⟨rfl, rfl⟩
/-- a field is put -/
theorem sx_put {z ci j tt q : Nat} {v : Value} {T : List Value} {fs : List Value} (X : mm_Cx p R s m args c cells slots g o cc) (hd : decode cc pc = .ok (.putfield z, 3)) (hfl : mm_find4 (mm_fT o) z = some (ci, j, tt)) (hq : h[q]? = some (.inr (ci, fs))) (hj : j < fs.length) (ht : tt ≠ 0) (hr : mm_v g.2.1 v = v) (hnar : narrow (mm_tt tt) v = v) (hfit : fits (mm_tt tt) v = true) (k : mm_J p l e R s m args below meth c cells slots Q g (pc + 3, L, T, h.set q (.inr (ci, fs.set j v)))) : mm_J p l e R s m args below meth c cells slots Q g (pc, L, v :: .ref q :: T, h) := by
  obtain ⟨hx, hb, hown, hts, hZ, hR, hcs⟩ := X
  intro H locs ls hI hS hl hv
  obtain ⟨⟨C, T9, N⟩, p1, p2, p3, p4⟩ := mm_flk hfl
  have hq1 := hI.2.2.2.ob hq
  rcases p4 with p4 | ⟨p4, p5⟩
  · exact absurd p4 ht
  obtain ⟨hu, ⟨ty0, hty⟩, hnm⟩ := mm_clk p1
  have goal : W p l e R s m args below meth c H locs cells slots Q (F0 m pc ls (v :: .ref (g.2.1 q) :: T.map (mm_v g.2.1))) := by
    refine va_put (D := g.1) (ci := ci) (v := v) hx hb hts hu ty0 hty hnm hown hZ.1 hI.1 hI.2.1 hS (q - 2) (mm_w_get hq1 hq) p1 j p2 (hts _ p3) (fun _ h9 => h9) p4 p5 hnar hfit (by rw [List.length_map]; exact hj) hd (fun H1 locs1 hP1 hD1 hS1 => ?_)
    have e1 : (mm_w g.2.1 g.2.2.1 h).set (q - 2) (g.2.1 q, .inr (ci, (fs.map (mm_v g.2.1)).set j v)) = mm_w g.2.1 g.2.2.1 (h.set q (.inr (ci, fs.set j v))) := by
      rw [← mm_w_set hq1]
      show _ = (mm_w g.2.1 g.2.2.1 h).set (q - 2) (g.2.1 q, .inr (ci, (fs.set j v).map (mm_v g.2.1)))
      rw [List.map_set, hr]
    rw [e1] at hP1 hD1
    exact k H1 locs1 ls ⟨hP1, hD1, hI.2.2.1.setO, hI.2.2.2.set hq1⟩ hS1 hl hv
  show W p l e R s m args below meth c H locs cells slots Q (F0 m pc ls (mm_v g.2.1 v :: .ref (g.2.1 q) :: T.map (mm_v g.2.1)))
  rw [hr]
  exact goal
theorem sx_putfield {z : Nat} (X : mm_Cx p R s m args c cells slots g o cc) (hd : decode cc pc = .ok (.putfield z, n)) (hn : mm_len (.putfield z) n = true) (hf : mm_x o (.putfield z) pc L S h = some F) (k : mm_J p l e R s m args below meth c cells slots Q g F) : mm_J p l e R s m args below meth c cells slots Q g (pc, L, S, h) := by
  have e9 : n = 3 := Nat.eq_of_beq_eq_true hn
  subst e9
  obtain ⟨hx, hb, hown, hts, hZ, hR, hcs⟩ := X
  unfold mm_x at hf
  simp only at hf
  split at hf
  · rename_i ci j tt hfl
    split at hf
    · obtain ⟨fs, hq, hf⟩ := me_ob hf
      obtain ⟨hj, hf⟩ := me_bif hf
      cases h1 : Nat.beq tt 1 with
      | true =>
        rw [h1] at hf
        cases hf
        have e1 := Nat.eq_of_beq_eq_true h1
        subst e1
        exact sx_put ⟨hx, hb, hown, hts, hZ, hR, hcs⟩ hd hfl hq (me_blt hj) (by decide) rfl rfl rfl k
      | false =>
        rw [h1] at hf
        simp only [cond_false] at hf
        obtain ⟨h3, hf⟩ := me_bif hf
        obtain ⟨hx01, hf⟩ := me_it hf
        cases hf
        have e1 := Nat.eq_of_beq_eq_true h3
        subst e1
        exact sx_put ⟨hx, hb, hown, hts, hZ, hR, hcs⟩ hd hfl hq (me_blt hj) (by decide) rfl (mm_nb hx01).1 (mm_nb hx01).2 k
    · obtain ⟨fs, hq, hf⟩ := me_ob hf
      obtain ⟨hj, hf⟩ := me_bif hf
      rw [Bool.and_eq_true] at hj
      cases hf
      have e1 := Nat.eq_of_beq_eq_true hj.2
      subst e1
      exact sx_put ⟨hx, hb, hown, hts, hZ, hR, hcs⟩ hd hfl hq (me_blt hj.1) (by decide) rfl rfl rfl k
    · cases hf
  · cases hf
theorem sx_getstatic {z : Nat} (X : mm_Cx p R s m args c cells slots g o cc) (hd : decode cc pc = .ok (.getstatic z, n)) (hn : mm_len (.getstatic z) n = true) (hf : mm_x o (.getstatic z) pc L S h = some F) (k : mm_J p l e R s m args below meth c cells slots Q g F) : mm_J p l e R s m args below meth c cells slots Q g (pc, L, S, h) := by
  have e9 : n = 3 := Nat.eq_of_beq_eq_true hn
  subst e9
  obtain ⟨hx, hb, hown, hts, hZ, hR, hcs⟩ := X
  obtain ⟨hc, hf⟩ := me_bif hf
  cases hf
  intro H locs ls hI hS hl hv
  rw [Bool.or_eq_true, Bool.and_eq_true, Bool.and_eq_true] at hc
  rcases hc with ⟨h1, h2⟩ | ⟨h1, h2⟩
  · have e1 := Nat.eq_of_beq_eq_true h1; have e2 := Nat.eq_of_beq_eq_true h2
    subst e1; subst e2
    exact va_getsN hx hb hZ.2.1 hS hown (hZ.2.2.2.2.2.2.2.use rfl) (fun _ h9 => h9) hd (k H locs ls hI hS hl hv)
  · have e1 := Nat.eq_of_beq_eq_true h1; have e2 := Nat.eq_of_beq_eq_true h2
    subst e1; subst e2
    exact va_gets hx hb hZ.2.1 hS hown (hts _ mk_reach) (fun _ h9 => h9) hd (k H locs ls hI hS hl hv)
theorem sx_iaload (X : mm_Cx p R s m args c cells slots g o cc) (hd : decode cc pc = .ok (.iaload, n)) (hn : mm_len (.iaload) n = true) (hf : mm_x o (.iaload) pc L S h = some F) (k : mm_J p l e R s m args below meth c cells slots Q g F) : mm_J p l e R s m args below meth c cells slots Q g (pc, L, S, h) := by
  have e9 : n = 1 := Nat.eq_of_beq_eq_true hn
  subst e9
  obtain ⟨hx, hb, hown, hts, hZ, hR, hcs⟩ := X
  obtain ⟨q, i, T, rfl, hf⟩ := me_ri hf
  obtain ⟨n9, u, hq, hf⟩ := me_ai hf
  obtain ⟨hin, hf⟩ := me_if hf
  cases hf
  intro H locs ls hI hS hl hv
  rcases Nat.lt_or_ge 1 q with hq1 | hq1
  · obtain ⟨t9, ht9⟩ := hI.2.2.1 q 0 _ hq1 hq
    exact va_iald (D := g.1) hx hb hZ.1 hI.1 (q - 2) t9 (mm_w_get hq1 hq) ht9 hin hd (k H locs ls hI hS hl hv)
  · rcases (show q = 0 ∨ q = 1 by omega) with rfl | rfl
    · have e1 := hI.2.2.2.1.symm.trans hq
      cases e1
      exact va_ti hx hb hZ.2.2.1 hS hin rfl hd (k H locs ls hI hS hl hv)
    · have e1 := hI.2.2.2.2.symm.trans hq
      cases e1
      obtain ⟨scr, e3, e4⟩ := hZ.2.2.2.1
      exact va_sld hx hb ⟨scr, e3, e4⟩ (Array.getElem?_eq_some_iff.mp e3).1 hZ.2.2.2.2.1 hS hin hd (k H locs ls hI hS hl hv)
theorem mm_nz {L : Nat} {xs : Nat → Int32} (k : mm_RS L xs h) {q t : Nat} {a : vp_A} (e : h[q]? = some (.inl (t, a))) (ht : t ≠ 0) : 1 < q := by
  rcases Nat.lt_or_ge 1 q with r | r
  · exact r
  · rcases (show q = 0 ∨ q = 1 by omega) with rfl | rfl
    · rw [k.1] at e; cases e; exact absurd rfl ht
    · rw [k.2] at e; cases e; exact absurd rfl ht
theorem mm_e_arr {ad : Nat → Nat} {ca : Nat → ClassId} {k : Nat} (t : Nat) (a : vp_A) : ∃ b : vp_A, mm_e ad ca k (.inl (t, a)) = .inl (ca k, b) ∧ b.1 = a.1 := by
  obtain ⟨n, a⟩ := a
  rcases a with a | a | a | a | a
  · exact ⟨_, rfl, rfl⟩
  · exact ⟨_, rfl, rfl⟩
  · exact ⟨_, rfl, rfl⟩
  · exact ⟨_, rfl, rfl⟩
  · exact ⟨_, rfl, rfl⟩
theorem sx_laload (X : mm_Cx p R s m args c cells slots g o cc) (hd : decode cc pc = .ok (.laload, n)) (hn : mm_len (.laload) n = true) (hf : mm_x o (.laload) pc L S h = some F) (k : mm_J p l e R s m args below meth c cells slots Q g F) : mm_J p l e R s m args below meth c cells slots Q g (pc, L, S, h) := by
  have e9 : n = 1 := Nat.eq_of_beq_eq_true hn
  subst e9
  obtain ⟨hx, hb, hown, hts, hZ, hR, hcs⟩ := X
  obtain ⟨q, i, T, rfl, hf⟩ := me_ri hf
  obtain ⟨n9, u, hq, hf⟩ := me_al hf
  obtain ⟨hin, hf⟩ := me_if hf
  cases hf
  intro H locs ls hI hS hl hv
  have hq1 : 1 < q := mm_nz hI.2.2.2 hq (by decide)
  obtain ⟨t9, ht9⟩ := hI.2.2.1 q 1 _ hq1 hq
  exact va_lald (D := g.1) hx hb hZ.1 hI.1 (q - 2) t9 (mm_w_get hq1 hq) ht9 hin hd (k H locs ls hI hS hl hv)
theorem sx_baload (X : mm_Cx p R s m args c cells slots g o cc) (hd : decode cc pc = .ok (.baload, n)) (hn : mm_len (.baload) n = true) (hf : mm_x o (.baload) pc L S h = some F) (k : mm_J p l e R s m args below meth c cells slots Q g F) : mm_J p l e R s m args below meth c cells slots Q g (pc, L, S, h) := by
  have e9 : n = 1 := Nat.eq_of_beq_eq_true hn
  subst e9
  obtain ⟨hx, hb, hown, hts, hZ, hR, hcs⟩ := X
  obtain ⟨q, i, T, rfl, hf⟩ := me_ri hf
  obtain ⟨n9, u, hq, hf⟩ := me_ab hf
  obtain ⟨hin, hf⟩ := me_if hf
  cases hf
  intro H locs ls hI hS hl hv
  have hq1 : 1 < q := mm_nz hI.2.2.2 hq (by decide)
  obtain ⟨t9, ht9⟩ := hI.2.2.1 q 2 _ hq1 hq
  exact va_zald (D := g.1) hx hb hZ.1 hI.1 (q - 2) t9 (mm_w_get hq1 hq) ht9 hin hd (k H locs ls hI hS hl hv)
theorem sx_aaload (X : mm_Cx p R s m args c cells slots g o cc) (hd : decode cc pc = .ok (.aaload, n)) (hn : mm_len (.aaload) n = true) (hf : mm_x o (.aaload) pc L S h = some F) (k : mm_J p l e R s m args below meth c cells slots Q g F) : mm_J p l e R s m args below meth c cells slots Q g (pc, L, S, h) := by
  have e9 : n = 1 := Nat.eq_of_beq_eq_true hn
  subst e9
  obtain ⟨hx, hb, hown, hts, hZ, hR, hcs⟩ := X
  obtain ⟨q, i, T, rfl, hf⟩ := me_ri hf
  obtain ⟨n9, u, hq, hf⟩ := me_ar hf
  obtain ⟨hin, hf⟩ := me_if hf
  split at hf
  · rename_i p9 hp9
    cases hf
    intro H locs ls hI hS hl hv
    have hq1 : 1 < q := mm_nz hI.2.2.2 hq (by decide)
    obtain ⟨t9, ht9⟩ := hI.2.2.1 q 3 _ hq1 hq
    refine va_aldq (D := g.1) hx hb hZ.1 hI.1 (q - 2) t9 (mm_w_get hq1 hq) ht9 hin hd ?_
    have e1 : va_rf ((u i.toNatClampNeg).map g.2.1) = .ref (g.2.1 p9) := by rw [hp9]; rfl
    rw [e1]
    exact k H locs ls hI hS hl hv
  · cases hf
theorem sx_iastore (X : mm_Cx p R s m args c cells slots g o cc) (hd : decode cc pc = .ok (.iastore, n)) (hn : mm_len (.iastore) n = true) (hf : mm_x o (.iastore) pc L S h = some F) (k : mm_J p l e R s m args below meth c cells slots Q g F) : mm_J p l e R s m args below meth c cells slots Q g (pc, L, S, h) := by
  have e9 : n = 1 := Nat.eq_of_beq_eq_true hn
  subst e9
  obtain ⟨hx, hb, hown, hts, hZ, hR, hcs⟩ := X
  obtain ⟨q, i, x, T, rfl, hf⟩ := me_rii hf
  obtain ⟨n9, u, hq, hf⟩ := me_ai hf
  obtain ⟨hin, hf⟩ := me_if hf
  obtain ⟨hq1, hf⟩ := me_bif hf
  have hq1 := me_blt hq1
  cases hf
  intro H locs ls hI hS hl hv
  obtain ⟨t9, ht9⟩ := hI.2.2.1 q 0 _ hq1 hq
  refine va_iast (D := g.1) hx hb hZ.1 hI.1 hI.2.1 hS (q - 2) t9 (mm_w_get hq1 hq) ht9 hin hd (fun H1 locs1 hP1 hD1 hS1 => ?_)
  exact k H1 locs1 ls ⟨by rw [← mm_w_set hq1]; exact hP1, by rw [← mm_w_set hq1]; exact hD1, hI.2.2.1.set hq, hI.2.2.2.set hq1⟩ hS1 hl hv
theorem sx_lastore (X : mm_Cx p R s m args c cells slots g o cc) (hd : decode cc pc = .ok (.lastore, n)) (hn : mm_len (.lastore) n = true) (hf : mm_x o (.lastore) pc L S h = some F) (k : mm_J p l e R s m args below meth c cells slots Q g F) : mm_J p l e R s m args below meth c cells slots Q g (pc, L, S, h) := by
  have e9 : n = 1 := Nat.eq_of_beq_eq_true hn
  subst e9
  obtain ⟨hx, hb, hown, hts, hZ, hR, hcs⟩ := X
  obtain ⟨q, i, x, T, rfl, hf⟩ := me_ril hf
  obtain ⟨n9, u, hq, hf⟩ := me_al hf
  obtain ⟨hin, hf⟩ := me_if hf
  obtain ⟨hq1, hf⟩ := me_bif hf
  have hq1 := me_blt hq1
  cases hf
  intro H locs ls hI hS hl hv
  obtain ⟨t9, ht9⟩ := hI.2.2.1 q 1 _ hq1 hq
  refine va_last (D := g.1) hx hb hZ.1 hI.1 hI.2.1 hS (q - 2) t9 (mm_w_get hq1 hq) ht9 hin hd (fun H1 locs1 hP1 hD1 hS1 => ?_)
  exact k H1 locs1 ls ⟨by rw [← mm_w_set hq1]; exact hP1, by rw [← mm_w_set hq1]; exact hD1, hI.2.2.1.set hq, hI.2.2.2.set hq1⟩ hS1 hl hv
theorem sx_bastore (X : mm_Cx p R s m args c cells slots g o cc) (hd : decode cc pc = .ok (.bastore, n)) (hn : mm_len (.bastore) n = true) (hf : mm_x o (.bastore) pc L S h = some F) (k : mm_J p l e R s m args below meth c cells slots Q g F) : mm_J p l e R s m args below meth c cells slots Q g (pc, L, S, h) := by
  have e9 : n = 1 := Nat.eq_of_beq_eq_true hn
  subst e9
  obtain ⟨hx, hb, hown, hts, hZ, hR, hcs⟩ := X
  obtain ⟨q, i, x, T, rfl, hf⟩ := me_rii hf
  obtain ⟨n9, u, hq, hf⟩ := me_ab hf
  obtain ⟨hin, hf⟩ := me_if hf
  obtain ⟨hx01, hf⟩ := me_it hf
  obtain ⟨hq1, hf⟩ := me_bif hf
  have hq1 := me_blt hq1
  cases hf
  intro H locs ls hI hS hl hv
  obtain ⟨t9, ht9⟩ := hI.2.2.1 q 2 _ hq1 hq
  have e1 : vp_nar .boolean x = x := by unfold vp_nar; rw [(mm_nb hx01).1]
  refine va_zast (D := g.1) hx hb hZ.1 hI.1 hI.2.1 hS (q - 2) t9 (mm_w_get hq1 hq) ht9 hin hd (fun H1 locs1 hP1 hD1 hS1 => ?_)
  rw [e1] at hP1 hD1
  exact k H1 locs1 ls ⟨by rw [← mm_w_set hq1]; exact hP1, by rw [← mm_w_set hq1]; exact hD1, hI.2.2.1.set hq, hI.2.2.2.set hq1⟩ hS1 hl hv
theorem sx_arraylength (X : mm_Cx p R s m args c cells slots g o cc) (hd : decode cc pc = .ok (.arraylength, n)) (hn : mm_len (.arraylength) n = true) (hf : mm_x o (.arraylength) pc L S h = some F) (k : mm_J p l e R s m args below meth c cells slots Q g F) : mm_J p l e R s m args below meth c cells slots Q g (pc, L, S, h) := by
  have e9 : n = 1 := Nat.eq_of_beq_eq_true hn
  subst e9
  obtain ⟨hx, hb, hown, hts, hZ, hR, hcs⟩ := X
  obtain ⟨q, T, rfl, hf⟩ := me_1r hf
  obtain ⟨t, a, hq, hf⟩ := me_an hf
  cases hf
  intro H locs ls hI hS hl hv
  rcases Nat.lt_or_ge 1 q with hq1 | hq1
  · obtain ⟨t9, ht9⟩ := hI.2.2.1 q t _ hq1 hq
    obtain ⟨b, hb1, hb2⟩ := mm_e_arr (ad := g.2.1) (ca := g.2.2.1) (k := q) t a
    exact va_alen (D := g.1) hx hb hZ.1 hI.1 (q - 2) t9 (x := b) (by rw [mm_w_get hq1 hq, hb1]) ht9 (by rw [hb2]) hd (k H locs ls hI hS hl hv)
  · rcases (show q = 0 ∨ q = 1 by omega) with rfl | rfl
    · have e1 := hI.2.2.2.1.symm.trans hq
      cases e1
      exact va_tlen hx hb hZ.2.2.1 hS rfl hd (k H locs ls hI hS hl hv)
    · have e1 := hI.2.2.2.2.symm.trans hq
      cases e1
      obtain ⟨scr, e3, e4⟩ := hZ.2.2.2.1
      exact va_slen hx hb ⟨scr, e3, e4⟩ (Array.getElem?_eq_some_iff.mp e3).1 hZ.2.2.2.2.1 hS hd (k H locs ls hI hS hl hv)
theorem mm_cik {k : Nat} {v : Int32} (h : mm_ci k = some v) : Cond.constant (mm_nm 9) k v ∈ mm_TB := by
  unfold mm_ci at h
  cases h1 : Nat.beq k 265 with
  | true => rw [h1] at h; cases h; rw [Nat.eq_of_beq_eq_true h1]; exact mk_9_265
  | false =>
    rw [h1] at h
    cases h2 : Nat.beq k 266 with
    | true => rw [h2] at h; cases h; rw [Nat.eq_of_beq_eq_true h2]; exact mk_9_266
    | false =>
      rw [h2] at h
      cases h3 : Nat.beq k 267 with
      | true => rw [h3] at h; cases h; rw [Nat.eq_of_beq_eq_true h3]; exact mk_9_267
      | false => rw [h3] at h; cases h
theorem mm_clk2 {k : Nat} {v : Int64} (h : mm_cl o k = some v) : Cond.constantLong (mm_nm o) k v ∈ mm_TB := by
  unfold mm_cl at h
  cases h1 : (Nat.beq o 2 || Nat.beq o 5) && Nat.beq k 63 with
  | true =>
    rw [h1] at h
    cases h
    rw [Bool.and_eq_true, Bool.or_eq_true] at h1
    rw [Nat.eq_of_beq_eq_true h1.2]
    rcases h1.1 with h2 | h2
    · rw [Nat.eq_of_beq_eq_true h2]; exact mk_2_63
    · rw [Nat.eq_of_beq_eq_true h2]; exact mk_5_63
  | false =>
    rw [h1] at h
    simp only [cond_false] at h
    cases h2 : Nat.beq o 10 with
    | true =>
      rw [h2] at h
      simp only [cond_true] at h
      rw [Nat.eq_of_beq_eq_true h2]
      cases h3 : Nat.beq k 314 with
      | true => rw [h3] at h; cases h; rw [Nat.eq_of_beq_eq_true h3]; exact mk_10_314
      | false =>
        rw [h3] at h
        cases h4 : Nat.beq k 316 with
        | true => rw [h4] at h; cases h; rw [Nat.eq_of_beq_eq_true h4]; exact mk_10_316
        | false =>
          rw [h4] at h
          cases h5 : Nat.beq k 318 with
          | true => rw [h5] at h; cases h; rw [Nat.eq_of_beq_eq_true h5]; exact mk_10_318
          | false => rw [h5] at h; cases h
    | false =>
      rw [h2] at h
      simp only [cond_false] at h
      cases h3 : (Nat.beq o 6 && Nat.beq k 160) || (Nat.beq o 7 && Nat.beq k 60) with
      | false => rw [h3] at h; cases h
      | true =>
        rw [h3] at h
        cases h
        rw [Bool.or_eq_true, Bool.and_eq_true, Bool.and_eq_true] at h3
        rcases h3 with ⟨h4, h5⟩ | ⟨h4, h5⟩
        · rw [Nat.eq_of_beq_eq_true h4, Nat.eq_of_beq_eq_true h5]; exact mk_6_160
        · rw [Nat.eq_of_beq_eq_true h4, Nat.eq_of_beq_eq_true h5]; exact mk_7_60
theorem sx_ldc_w {z : Nat} (X : mm_Cx p R s m args c cells slots g o cc) (hd : decode cc pc = .ok (.ldc_w z, n)) (hn : mm_len (.ldc_w z) n = true) (hf : mm_x o (.ldc_w z) pc L S h = some F) (k : mm_J p l e R s m args below meth c cells slots Q g F) : mm_J p l e R s m args below meth c cells slots Q g (pc, L, S, h) := by
  have e9 : n = 3 := Nat.eq_of_beq_eq_true hn
  subst e9
  obtain ⟨hx, hb, hown, hts, hZ, hR, hcs⟩ := X
  obtain ⟨ho, hg⟩ := me_bif hf
  clear hf
  have ho := Nat.eq_of_beq_eq_true ho
  subst ho
  have hf := hg
  clear hg
  split at hf
  · rename_i v hv9
    cases hf
    intro H locs ls hI hS hl hv
    exact lv_ldcw hx hb hown (hts _ (mm_cik hv9)) hd (k H locs ls hI hS hl hv)
  · cases hf
theorem sx_ldc2_w {z : Nat} (X : mm_Cx p R s m args c cells slots g o cc) (hd : decode cc pc = .ok (.ldc2_w z, n)) (hn : mm_len (.ldc2_w z) n = true) (hf : mm_x o (.ldc2_w z) pc L S h = some F) (k : mm_J p l e R s m args below meth c cells slots Q g F) : mm_J p l e R s m args below meth c cells slots Q g (pc, L, S, h) := by
  have e9 : n = 3 := Nat.eq_of_beq_eq_true hn
  subst e9
  obtain ⟨hx, hb, hown, hts, hZ, hR, hcs⟩ := X
  unfold mm_x at hf
  simp only at hf
  split at hf
  · rename_i v hv9
    cases hf
    intro H locs ls hI hS hl hv
    exact lv_ldc2 hx hb hown (hts _ (mm_clk2 hv9)) hd (k H locs ls hI hS hl hv)
  · cases hf
end SX
end
section
/-! THE SMALL MACHINE'S RUNS ARE THE LARGE ONE'S (written by wip/whole/gen10.py) -/
theorem mm_key {α : Type} {e : α} {a b : Nat} (x y : List α) (hh : e ∈ (bif Nat.blt a b then x else y)) : (a < b ∧ e ∈ x) ∨ (b ≤ a ∧ e ∈ y) := by
  cases hb : Nat.blt a b with
  | true => rw [hb] at hh; exact Or.inl ⟨Nat.le_of_ble_eq_true hb, hh⟩
  | false =>
    rw [hb] at hh
    refine Or.inr ⟨?_, hh⟩
    rcases Nat.lt_or_ge a b with q | q
    · exact absurd ((Nat.ble_eq_true_of_le q).symm.trans hb) (by decide)
    · exact q
theorem mm_vlk {o k z : Nat} (h : mm_find2 (mm_vT o) k = some z) : mm_Pv o (k, z) := by
  have h1 := mm_find2_mem h
  unfold mm_vT at h1
  rcases mm_key _ _ h1 with ⟨q6, h1⟩ | ⟨q6, h1⟩
  · rcases mm_key _ _ h1 with ⟨q3, h1⟩ | ⟨q3, h1⟩
    · rcases mm_key _ _ h1 with ⟨q1, h1⟩ | ⟨q1, h1⟩
      · have e7 : o = 0 := by omega
        subst e7
        exact mv_0 _ h1
      · rcases mm_key _ _ h1 with ⟨q2, h1⟩ | ⟨q2, h1⟩
        · have e7 : o = 1 := by omega
          subst e7
          exact mv_1 _ h1
        · have e7 : o = 2 := by omega
          subst e7
          exact mv_2 _ h1
    · rcases mm_key _ _ h1 with ⟨q4, h1⟩ | ⟨q4, h1⟩
      · have e7 : o = 3 := by omega
        subst e7
        exact mv_3 _ h1
      · rcases mm_key _ _ h1 with ⟨q5, h1⟩ | ⟨q5, h1⟩
        · have e7 : o = 4 := by omega
          subst e7
          exact mv_4 _ h1
        · have e7 : o = 5 := by omega
          subst e7
          exact mv_5 _ h1
  · rcases mm_key _ _ h1 with ⟨q9, h1⟩ | ⟨q9, h1⟩
    · rcases mm_key _ _ h1 with ⟨q7, h1⟩ | ⟨q7, h1⟩
      · have e7 : o = 6 := by omega
        subst e7
        exact mv_6 _ h1
      · rcases mm_key _ _ h1 with ⟨q8, h1⟩ | ⟨q8, h1⟩
        · have e7 : o = 7 := by omega
          subst e7
          exact mv_7 _ h1
        · have e7 : o = 8 := by omega
          subst e7
          exact mv_8 _ h1
    · rcases mm_key _ _ h1 with ⟨q10, h1⟩ | ⟨q10, h1⟩
      · have e7 : o = 9 := by omega
        subst e7
        exact mv_9 _ h1
      · rcases mm_key _ _ h1 with ⟨q11, h1⟩ | ⟨q11, h1⟩
        · have e7 : o = 10 := by omega
          subst e7
          exact mv_10 _ h1
        · exact absurd h1 (by unfold mm_vT_11; exact List.not_mem_nil)
theorem mm_slk {o k z : Nat} (h : mm_find2 (mm_sT o) k = some z) : mm_Ps o (k, z) := by
  have h1 := mm_find2_mem h
  unfold mm_sT at h1
  rcases mm_key _ _ h1 with ⟨q6, h1⟩ | ⟨q6, h1⟩
  · rcases mm_key _ _ h1 with ⟨q3, h1⟩ | ⟨q3, h1⟩
    · rcases mm_key _ _ h1 with ⟨q1, h1⟩ | ⟨q1, h1⟩
      · have e7 : o = 0 := by omega
        subst e7
        exact ms_0 _ h1
      · rcases mm_key _ _ h1 with ⟨q2, h1⟩ | ⟨q2, h1⟩
        · have e7 : o = 1 := by omega
          subst e7
          exact ms_1 _ h1
        · have e7 : o = 2 := by omega
          subst e7
          exact ms_2 _ h1
    · rcases mm_key _ _ h1 with ⟨q4, h1⟩ | ⟨q4, h1⟩
      · have e7 : o = 3 := by omega
        subst e7
        exact ms_3 _ h1
      · rcases mm_key _ _ h1 with ⟨q5, h1⟩ | ⟨q5, h1⟩
        · have e7 : o = 4 := by omega
          subst e7
          exact ms_4 _ h1
        · have e7 : o = 5 := by omega
          subst e7
          exact ms_5 _ h1
  · rcases mm_key _ _ h1 with ⟨q9, h1⟩ | ⟨q9, h1⟩
    · rcases mm_key _ _ h1 with ⟨q7, h1⟩ | ⟨q7, h1⟩
      · have e7 : o = 6 := by omega
        subst e7
        exact ms_6 _ h1
      · rcases mm_key _ _ h1 with ⟨q8, h1⟩ | ⟨q8, h1⟩
        · have e7 : o = 7 := by omega
          subst e7
          exact ms_7 _ h1
        · have e7 : o = 8 := by omega
          subst e7
          exact ms_8 _ h1
    · rcases mm_key _ _ h1 with ⟨q10, h1⟩ | ⟨q10, h1⟩
      · have e7 : o = 9 := by omega
        subst e7
        exact ms_9 _ h1
      · rcases mm_key _ _ h1 with ⟨q11, h1⟩ | ⟨q11, h1⟩
        · have e7 : o = 10 := by omega
          subst e7
          exact ms_10 _ h1
        · exact absurd h1 (by unfold mm_sT_11; exact List.not_mem_nil)
section SY
variable {p : Program} {l : Launch} {e : Env} {R : Room} {s : State} {m : MethodId} {args : Array Value} {below : List Frame} {meth : Method} {c : Code} {cells slots : Nat} {Q : State → Prop} {g : mm_G} {o : Nat} {cc : ByteArray} {pc n : Nat} {L : mm_L} {S : List Value} {h : mm_H} {F : mm_F}
theorem mm_room8 {T : List Value} {r : Nat} (hz : Nat.ble (mm_sz T) 8 = true) (hr : 64 ≤ r) : ((T.map (mm_v g.2.1)).map fun v => v.category).sum + 13 ≤ r := by
  rw [mm_sz_v]
  have := Nat.le_of_ble_eq_true hz
  omega
theorem sx_invokestatic {z : Nat} (X : mm_Cx p R s m args c cells slots g o cc) (hd : decode cc pc = .ok (.invokestatic z, n)) (hn : mm_len (.invokestatic z) n = true) (hf : mm_x o (.invokestatic z) pc L S h = some F) (k : mm_J p l e R s m args below meth c cells slots Q g F) : mm_J p l e R s m args below meth c cells slots Q g (pc, L, S, h) := by
  have e9 : n = 3 := Nat.eq_of_beq_eq_true hn
  subst e9
  obtain ⟨hx, hb, hown, hts, hZ, hR, hcs⟩ := X
  unfold mm_x at hf
  simp only at hf
  split at hf
  · rename_i z9 hz9
    have hP := mm_slk hz9
    cases h1 : Nat.beq z9 1000 with
    | true =>
      rw [h1] at hf
      simp only [cond_true] at hf
      have e1 := Nat.eq_of_beq_eq_true h1
      obtain ⟨x, y, T, rfl, hg⟩ := me_2i hf
      obtain ⟨hz, hg⟩ := me_bif hg
      cases hg
      intro H locs ls hI hS hl hv
      exact va_mmax hx hb hv.1.symm hown (hts _ (hP.2.1 e1)) (hts _ mj_max.1) (hts _ mj_math) (hts _ mj_max.2) hR.1 (mm_room8 hz hR.2) hcs.1 hcs.2 hd (k H locs ls hI hS hl hv)
    | false =>
      rw [h1] at hf
      simp only [cond_false] at hf
      cases h2 : Nat.beq z9 1001 with
      | true =>
        rw [h2] at hf
        simp only [cond_true] at hf
        have e1 := Nat.eq_of_beq_eq_true h2
        obtain ⟨x, y, T, rfl, hg⟩ := me_2i hf
        obtain ⟨hz, hg⟩ := me_bif hg
        cases hg
        intro H locs ls hI hS hl hv
        exact va_mmin hx hb hv.1.symm hown (hts _ (hP.2.2.1 e1)) (hts _ mj_min.1) (hts _ mj_math) (hts _ mj_min.2) hR.1 (mm_room8 hz hR.2) hcs.1 hcs.2 hd (k H locs ls hI hS hl hv)
      | false =>
        rw [h2] at hf
        simp only [cond_false] at hf
        cases h3 : Nat.beq z9 1002 with
        | true =>
          rw [h3] at hf
          simp only [cond_true] at hf
          have e1 := Nat.eq_of_beq_eq_true h3
          obtain ⟨x, T, rfl, hg⟩ := me_1i hf
          obtain ⟨hz, hg⟩ := me_bif hg
          cases hg
          intro H locs ls hI hS hl hv
          exact va_mabs hx hb hv.1.symm hown (hts _ (hP.2.2.2.1 e1)) (hts _ mj_abs.1) (hts _ mj_math) (hts _ mj_abs.2) hR.1 (mm_room8 hz hR.2) hcs.1 hcs.2 hd (k H locs ls hI hS hl hv)
        | false =>
          rw [h3] at hf
          simp only [cond_false] at hf
          obtain ⟨h4, hf⟩ := me_bif hf
          have e1 := Nat.eq_of_beq_eq_true h4
          split at hf
          · rename_i n9 dp q1 sp q0 T _
            obtain ⟨n0, f0, hq0, hf⟩ := me_ai hf
            obtain ⟨n1, f1, hq1, hf⟩ := me_ai hf
            obtain ⟨hin, hf⟩ := me_if hf
            obtain ⟨hz, hf⟩ := me_bif hf
            cases hf
            rw [Bool.and_eq_true, Bool.and_eq_true] at hz
            have hz0 := me_blt hz.2.1
            have hz1 := me_blt hz.2.2
            intro H locs ls hI hS hl hv
            obtain ⟨t0, ht0⟩ := hI.2.2.1 q0 0 _ hz0 hq0
            obtain ⟨t1, ht1⟩ := hI.2.2.1 q1 0 _ hz1 hq1
            have hroom := mm_room8 (g := g) (r := R.locals) hz.1 hR.2
            refine va_copyi (D := g.1) (ty := .int) hx hb hv.1.symm hown (hts _ (hP.2.2.2.2 e1)) (hts _ mj_copy.1) (hts _ mj_copy.2) (hts _ mj_sys) hZ.1 hI.1 hI.2.1 hS (q0 - 2) (q1 - 2) t0 t1 (mm_w_get hz0 hq0) (mm_w_get hz1 hq1) ht0 ht1 rfl
              (fun q => hin (Or.inl q)) (fun q => hin (Or.inr (Or.inl q))) (fun q => hin (Or.inr (Or.inr (Or.inl q)))) (Nat.le_of_not_lt fun q => hin (Or.inr (Or.inr (Or.inr (Or.inl q))))) (Nat.le_of_not_lt fun q => hin (Or.inr (Or.inr (Or.inr (Or.inr q))))) (fun _ _ => rfl) hR.1 ?_ hd (fun H1 locs1 hP1 hD1 hS1 => ?_)
            · have hsz : ((T.map (mm_v g.2.1)).map fun v => v.category).sum ≤ 8 := by rw [mm_sz_v]; exact Nat.le_of_ble_eq_true hz.1
              have e5 : nativeFrameWords "java/lang/System" "arraycopy" 5 = 7 := by decide +kernel
              rw [e5]
              have := hR.2
              omega
            · exact k H1 locs1 ls ⟨by rw [← mm_w_set hz1]; exact hP1, by rw [← mm_w_set hz1]; exact hD1, hI.2.2.1.set hq1, hI.2.2.2.set hz1⟩ hS1 hl hv
          · cases hf
  · cases hf
theorem mm_step {i : Instr} (X : mm_Cx p R s m args c cells slots g o cc) (hd : decode cc pc = .ok (i, n)) (hn : mm_len i n = true) (hf : mm_x o i pc L S h = some F) (k : mm_J p l e R s m args below meth c cells slots Q g F) : mm_J p l e R s m args below meth c cells slots Q g (pc, L, S, h) := by
  cases i with
  | iconst a => exact sx_iconst X hd hn hf k
  | bipush a => exact sx_bipush X hd hn hf k
  | sipush a => exact sx_sipush X hd hn hf k
  | lconst a => exact sx_lconst X hd hn hf k
  | ldc_w a => exact sx_ldc_w X hd hn hf k
  | ldc2_w a => exact sx_ldc2_w X hd hn hf k
  | iload_n a => exact sx_iload_n X hd hn hf k
  | iload a => exact sx_iload X hd hn hf k
  | lload_n a => exact sx_lload_n X hd hn hf k
  | lload a => exact sx_lload X hd hn hf k
  | aload_n a => exact sx_aload_n X hd hn hf k
  | aload a => exact sx_aload X hd hn hf k
  | istore_n a => exact sx_istore_n X hd hn hf k
  | istore a => exact sx_istore X hd hn hf k
  | lstore_n a => exact sx_lstore_n X hd hn hf k
  | lstore a => exact sx_lstore X hd hn hf k
  | astore_n a => exact sx_astore_n X hd hn hf k
  | astore a => exact sx_astore X hd hn hf k
  | iadd => exact sx_iadd X hd hn hf k
  | isub => exact sx_isub X hd hn hf k
  | imul => exact sx_imul X hd hn hf k
  | iand => exact sx_iand X hd hn hf k
  | ior => exact sx_ior X hd hn hf k
  | ixor => exact sx_ixor X hd hn hf k
  | ishl => exact sx_ishl X hd hn hf k
  | ishr => exact sx_ishr X hd hn hf k
  | iushr => exact sx_iushr X hd hn hf k
  | idiv => exact sx_idiv X hd hn hf k
  | irem => exact sx_irem X hd hn hf k
  | ineg => exact sx_ineg X hd hn hf k
  | ladd => exact sx_ladd X hd hn hf k
  | lsub => exact sx_lsub X hd hn hf k
  | land => exact sx_land X hd hn hf k
  | lor => exact sx_lor X hd hn hf k
  | lxor => exact sx_lxor X hd hn hf k
  | lneg => exact sx_lneg X hd hn hf k
  | lshl => exact sx_lshl X hd hn hf k
  | lushr => exact sx_lushr X hd hn hf k
  | lcmp => exact sx_lcmp X hd hn hf k
  | i2l => exact sx_i2l X hd hn hf k
  | l2i => exact sx_l2i X hd hn hf k
  | i2b => exact sx_i2b X hd hn hf k
  | i2s => exact sx_i2s X hd hn hf k
  | dup => exact sx_dup X hd hn hf k
  | dup2 => exact sx_dup2 X hd hn hf k
  | goto a => exact sx_goto X hd hn hf k
  | getfield a => exact sx_getfield X hd hn hf k
  | putfield a => exact sx_putfield X hd hn hf k
  | getstatic a => exact sx_getstatic X hd hn hf k
  | iaload => exact sx_iaload X hd hn hf k
  | laload => exact sx_laload X hd hn hf k
  | baload => exact sx_baload X hd hn hf k
  | aaload => exact sx_aaload X hd hn hf k
  | iastore => exact sx_iastore X hd hn hf k
  | lastore => exact sx_lastore X hd hn hf k
  | bastore => exact sx_bastore X hd hn hf k
  | arraylength => exact sx_arraylength X hd hn hf k
  | invokestatic a => exact sx_invokestatic X hd hn hf k
  | lookupswitch a b => exact sx_lookupswitch X hd hn hf k
  | tableswitch a b c d => exact sx_tableswitch X hd hn hf k
  | iinc a b => exact sx_iinc X hd hn hf k
  | ifCond c d =>
    cases c with
    | eq => exact sx_ifCond_eq X hd hn hf k
    | ne => exact sx_ifCond_ne X hd hn hf k
    | lt => exact sx_ifCond_lt X hd hn hf k
    | ge => exact sx_ifCond_ge X hd hn hf k
    | gt => exact sx_ifCond_gt X hd hn hf k
    | le => exact sx_ifCond_le X hd hn hf k
  | if_icmp c d =>
    cases c with
    | eq => exact sx_if_icmp_eq X hd hn hf k
    | ne => exact sx_if_icmp_ne X hd hn hf k
    | lt => exact sx_if_icmp_lt X hd hn hf k
    | ge => exact sx_if_icmp_ge X hd hn hf k
    | gt => exact sx_if_icmp_gt X hd hn hf k
    | le => exact sx_if_icmp_le X hd hn hf k
  | _ => cases hf
/-- what a method's end says -/
def mm_Qc (g : mm_G) (r : Option Value) (h : mm_H) : Array Value → State → Outcome → State → Prop := fun _ st oc t => oc = .returned (r.map (mm_v g.2.1)) ∧ mm_I g h t.heap ∧ va_F g.2.2.2.2.1 st t
theorem mm_callW {H : Heap} {locs : List Loc} {ls : Array Slot} {st0 rest : List Value} {r : Option Value} {h2 : mm_H} {a : Array Value} (hr : va_Run p l e R s m args below meth c H locs cells slots 0 0 (F0 m pc ls st0) rest (mm_Qc g r h2 a) g.2.2.2.2.1) (hS : va_S g.2.2.2.2.1 s.heap H locs)
    (kk : ∀ (H1 : Heap) (locs1 : List Loc), mm_I g h2 H1 → va_S g.2.2.2.2.1 s.heap H1 locs1 → W p l e R s m args below meth c H1 locs1 cells slots Q (F0 m (pc + 3) ls ((r.map (mm_v g.2.1)).toList ++ rest))) : W p l e R s m args below meth c H locs cells slots Q (F0 m pc ls st0) := by
  intro T hT X
  obtain ⟨v, st₀, t, T', L, h0, X', hL, e1, e2, ⟨hv, hI, hz, hk⟩, st⟩ := hr T hT X
  cases hv
  rw [h0] at hz hk
  obtain ⟨t2, a1, b1⟩ := kk T'.heap (locs ++ L) (by rw [e1]; exact hI)
    ⟨Nat.le_trans hS.1 (by rw [e1]; exact hz), fun q h1 h2 => by rw [e1, hk q (Nat.lt_of_lt_of_le h1 hS.1) h2]; exact hS.2.1 q h1 h2, fun q hq => by
      rcases List.mem_append.mp hq with h | h
      · exact hS.2.2 q h
      · exact hL q h⟩ T' rfl X'
  exact ⟨t2, st t2 a1, b1⟩
def mm_ws (z : Nat) : List Cond := Cond.code (mm_M z).2.1 (mm_M z).2.2.1 (mm_M z).2.2.2.1 (mm_M z).2.2.2.2.1 :: mm_TB
def mm_rm (d : Nat) : Room := { frames := d + 1, cells := 0, slots := 0, locals := 64 * (d + 1) }
def mm_Pre (g : mm_G) (as : List Value) (h : mm_H) : Array Value → State → Prop := va_Pc (as.map (mm_v g.2.1)) (fun U => mm_I g h U.heap ∧ mm_Z g U U.heap)
def mm_MetZ (l : Launch) (g : mm_G) (z d : Nat) (as : List Value) (h : mm_H) (r : Option Value × mm_H) : Prop := Met l (mm_M z).2.1 (mm_ws z) (mm_rm d) (mm_Pre g as h) (mm_Qc g r.1 r.2) 0 0 g.2.2.2.2.1
theorem mm_blind {as : List Value} : FrameBlind (mm_Pre g as h) := fun a U _ _ q => by
  obtain ⟨q0, qI, qZ⟩ := q
  exact ⟨q0, qI, mm_Z.at qZ rfl⟩
theorem mm_good {w : Cond} (hw : w ∈ mm_TB) : w ∈ mm_TB ∧ ((w.onTables && w.keeps) = true ∨ ∃ ty, w = .arrayClass ty) := ⟨hw, (mm_TB_good hw).2⟩
theorem mm_goodW {z : Nat} (hc : mm_cal z) : GoodIn mm_TB (mm_ws z) := by
  intro w hw
  rcases List.mem_cons.mp hw with rfl | hw
  · exact mm_good hc.2.1
  · exact mm_good hw
theorem mm_rm_ok {d z : Nat} (hc : mm_cal z) (hR : d + 2 ≤ R.frames ∧ 64 * (d + 2) ≤ R.locals) : (mm_rm d).frames + 1 ≤ R.frames ∧ 8 + ((mm_M z).2.2.2.1 + 11) + (mm_rm d).locals ≤ R.locals := by
  have h1 := hc.2.2.2.2.1
  refine ⟨hR.1, ?_⟩
  show 8 + ((mm_M z).2.2.2.1 + 11) + 64 * (d + 1) ≤ R.locals
  omega
theorem sx_virtual {z k d : Nat} {S' : List Value} {as : List Value} {r : Option Value × mm_H} (X : mm_Cx p R s m args c cells slots g o cc) (hd : decode cc pc = .ok (.invokevirtual k, n)) (hn : mm_len (.invokevirtual k) n = true) (hR : d + 2 ≤ R.frames ∧ 64 * (d + 2) ≤ R.locals) (hf : mm_call o (.invokevirtual k) S h = some (z, as, S')) (hM : mm_MetZ l g z d as h r) (kk : mm_J p l e R s m args below meth c cells slots Q g (pc + 3, L, r.1.toList ++ S', r.2)) : mm_J p l e R s m args below meth c cells slots Q g (pc, L, S, h) := by
  have e9 : n = 3 := Nat.eq_of_beq_eq_true hn
  subst e9
  obtain ⟨hx, hb, hown, hts, hZ, -, hcs⟩ := X
  unfold mm_call at hf
  simp only at hf
  split at hf
  · rename_i z9 hz9
    split at hf
    · rename_i q T hdr
      split at hf
      · rename_i ci fs hq
        cases hc : Nat.beq ci (mm_M z9).2.2.2.2.2.2 && Nat.ble (mm_sz T) 8 with
        | false => rw [hc] at hf; cases hf
        | true =>
          rw [hc] at hf
          cases hf
          rw [Bool.and_eq_true] at hc
          have eci := Nat.eq_of_beq_eq_true hc.1
          obtain ⟨hl1, hcal, hi1, hi2, hi3⟩ := mm_vlk hz9
          intro H locs ls hI hS hl hv
          have hq1 := hI.2.2.2.ob hq
          obtain ⟨⟨C9, T9, N9⟩, hK9, hC9⟩ : ∃ q9 : vw_C, mm_K[ci]? = some q9 ∧ q9.1 = (mm_M z).2.1.cls := by
            rw [eci]
            cases hh : mm_K[(mm_M z).2.2.2.2.2.2]? with
            | none => rw [hh] at hi3; cases hi3
            | some q9 => rw [hh] at hi3; exact ⟨q9, rfl, Option.some.inj hi3⟩
          have hrec := va_recv hZ.1 hI.1 hK9 (mm_w_get (ad := g.2.1) (ca := g.2.2.1) hq1 hq)
          have hlen : (mm_M z).2.2.2.2.2.1 < S.length := by
            rcases Nat.lt_or_ge (mm_M z).2.2.2.2.2.1 S.length with q9 | q9
            · exact q9
            · rw [List.drop_eq_nil_of_le q9] at hdr; cases hdr
          have hst : S.map (mm_v g.2.1) = (((S.take (mm_M z).2.2.2.2.2.1).reverse).map (mm_v g.2.1)).reverse ++ .ref (g.2.1 q) :: S'.map (mm_v g.2.1) := by
            rw [List.map_reverse, List.reverse_reverse]
            have e1 : S = S.take (mm_M z).2.2.2.2.2.1 ++ (.ref q :: S') := by rw [← hdr, List.take_append_drop]
            conv => lhs; rw [e1]
            rw [List.map_append]
            rfl
          have hrun := va_runV (p := p) (l := l) (e := e) (R := R) (s := s) (m := m) (args := args) (below := below) (meth := meth) (c := c) (H := H) (locs := locs) (cells := cells) (slots := slots) (Ts := mm_TB) (own := mm_nm o) (C := (mm_M z).2.1.cls) (b := g.2.1 q) (As := ((S.take (mm_M z).2.2.2.2.2.1).reverse).map (mm_v g.2.1)) (rest := S'.map (mm_v g.2.1)) (g := F0 m pc ls (S.map (mm_v g.2.1))) ⟨hx, hb, rfl, hown, hts⟩ hM
            (cwV (mm_M z).2.2.2.2.2.1 hts (fun w hw => by
              rcases List.mem_append.mp hw with hw | hw
              · simp only [List.mem_cons, List.not_mem_nil, or_false] at hw
                rcases hw with rfl | rfl | rfl | rfl
                · exact mm_good hl1
                · exact mm_good hi1
                · exact mm_good hi2
                · exact mm_good hcal.1
              · exact mm_goodW hcal w hw) rfl rfl rfl ⟨rfl, hcal.2.2.2.1.1, hcal.2.2.2.1.2.1, hcal.2.2.2.1.2.2⟩ (mm_rm_ok hcal hR))
            ⟨mm_blind, by rw [← hC9]; exact hrec, fun U hU hW => ⟨rfl, by rw [hU]; exact hI, hZ.go hW hU hS⟩⟩ rfl (by rw [List.length_map, List.length_reverse, List.length_take]; omega) hv.1 hst (by
              show 2 * 0 + _ ≤ 8
              rw [mm_sz_v]
              have := Nat.le_of_ble_eq_true hc.2
              omega) hd ⟨hcs.1, hcs.2⟩
          refine mm_callW hrun hS (fun H1 locs1 hI1 hS1 => ?_)
          have k2 := kk H1 locs1 ls hI1 hS1 hl hv
          have e2 : ((r.1.toList ++ S').map (mm_v g.2.1)) = (r.1.map (mm_v g.2.1)).toList ++ S'.map (mm_v g.2.1) := by
            rw [List.map_append]
            cases r.1 <;> rfl
          rw [← e2]
          exact k2
      · cases hf
    · cases hf
  · cases hf
theorem sx_static {z k d : Nat} {S' : List Value} {as : List Value} {r : Option Value × mm_H} (X : mm_Cx p R s m args c cells slots g o cc) (hd : decode cc pc = .ok (.invokestatic k, n)) (hn : mm_len (.invokestatic k) n = true) (hR : d + 2 ≤ R.frames ∧ 64 * (d + 2) ≤ R.locals) (hf : mm_call o (.invokestatic k) S h = some (z, as, S')) (hM : mm_MetZ l g z d as h r) (kk : mm_J p l e R s m args below meth c cells slots Q g (pc + 3, L, r.1.toList ++ S', r.2)) : mm_J p l e R s m args below meth c cells slots Q g (pc, L, S, h) := by
  have e9 : n = 3 := Nat.eq_of_beq_eq_true hn
  subst e9
  obtain ⟨hx, hb, hown, hts, hZ, -, hcs⟩ := X
  have e2 : ((r.1.toList ++ S').map (mm_v g.2.1)) = (r.1.map (mm_v g.2.1)).toList ++ S'.map (mm_v g.2.1) := by
    rw [List.map_append]
    cases r.1 <;> rfl
  unfold mm_call at hf
  simp only at hf
  cases hne : mm_nest o k with
  | true =>
    rw [hne] at hf
    simp only [cond_true] at hf
    split at hf
    · rename_i x T
      cases hc : Nat.ble (mm_sz T) 8 with
      | false => rw [hc] at hf; cases hf
      | true =>
        rw [hc] at hf
        cases hf
        intro H locs ls hI hS hl hv
        have hnw : va_Nw (.methodLinkNest (mm_nm o) k yX6_lowestBit "PondRings") s := by
          unfold mm_nest at hne
          rw [Bool.or_eq_true, Bool.and_eq_true, Bool.and_eq_true] at hne
          rcases hne with ⟨h1, h2⟩ | ⟨h1, h2⟩
          · rw [Nat.eq_of_beq_eq_true h1, Nat.eq_of_beq_eq_true h2]; exact hZ.2.2.2.2.2.1
          · rw [Nat.eq_of_beq_eq_true h1, Nat.eq_of_beq_eq_true h2]; exact hZ.2.2.2.2.2.2.1
        have hcal : mm_cal i_X6_lowestBit := mc_75
        have hrun := va_runSN (p := p) (l := l) (e := e) (R := R) (s := s) (m := m) (args := args) (below := below) (meth := meth) (c := c) (H := H) (locs := locs) (cells := cells) (slots := slots) (Ts := mm_TB) (own := mm_nm o) (host := "PondRings") (As := [Value.long x]) (rest := S'.map (mm_v g.2.1)) (g := F0 m pc ls (Value.long x :: S'.map (mm_v g.2.1))) ⟨hx, hb, rfl, hown, hts⟩ hM
          ⟨va_cnB 1 hts (mm_goodW hcal) rfl rfl rfl hnw (hts _ hcal.1) ⟨hcal.2.2.2.1.1, hcal.2.2.2.1.2.1, hcal.2.2.2.1.2.2⟩ (mm_rm_ok hcal hR), hts _ mst_75, trivial⟩
          ⟨mm_blind, fun U hU hW => ⟨rfl, by rw [hU]; exact hI, hZ.go hW hU hS⟩⟩ rfl rfl hv.1 rfl (by
              show 2 * 0 + _ ≤ 8
              rw [mm_sz_v]
              have := Nat.le_of_ble_eq_true hc
              omega) hd ⟨hcs.1, hcs.2⟩
        refine mm_callW hrun hS (fun H1 locs1 hI1 hS1 => ?_)
        have k2 := kk H1 locs1 ls hI1 hS1 hl hv
        rw [← e2]
        exact k2
    · cases hf
  | false =>
    rw [hne] at hf
    simp only [cond_false] at hf
    split at hf
    · rename_i z9 hz9
      cases hc : Nat.blt z9 1000 && (Nat.ble (mm_M z9).2.2.2.2.2.1 S.length && Nat.ble (mm_sz (S.drop (mm_M z9).2.2.2.2.2.1)) 8) with
      | false => rw [hc] at hf; cases hf
      | true =>
        rw [hc] at hf
        cases hf
        rw [Bool.and_eq_true, Bool.and_eq_true] at hc
        obtain ⟨hl1, hcal, hst1⟩ := (mm_slk hz9).1 (me_blt hc.1)
        have hlen := Nat.le_of_ble_eq_true hc.2.1
        intro H locs ls hI hS hl hv
        have hst : S.map (mm_v g.2.1) = (((S.take (mm_M z).2.2.2.2.2.1).reverse).map (mm_v g.2.1)).reverse ++ (S.drop (mm_M z).2.2.2.2.2.1).map (mm_v g.2.1) := by
          rw [List.map_reverse, List.reverse_reverse, ← List.map_append, List.take_append_drop]
        have hrun := va_runS (p := p) (l := l) (e := e) (R := R) (s := s) (m := m) (args := args) (below := below) (meth := meth) (c := c) (H := H) (locs := locs) (cells := cells) (slots := slots) (Ts := mm_TB) (own := mm_nm o) (As := ((S.take (mm_M z).2.2.2.2.2.1).reverse).map (mm_v g.2.1)) (rest := (S.drop (mm_M z).2.2.2.2.2.1).map (mm_v g.2.1)) (g := F0 m pc ls (S.map (mm_v g.2.1))) ⟨hx, hb, rfl, hown, hts⟩ hM
          (va_cwS (mm_M z).2.2.2.2.2.1 hts (fun w hw => by
              rcases List.mem_append.mp hw with hw | hw
              · simp only [List.mem_cons, List.not_mem_nil, or_false] at hw
                rcases hw with rfl | rfl | rfl
                · exact mm_good hl1
                · exact mm_good hst1
                · exact mm_good hcal.1
              · exact mm_goodW hcal w hw) rfl rfl rfl ⟨hcal.2.2.2.1.1, hcal.2.2.2.1.2.1, hcal.2.2.2.1.2.2⟩ (mm_rm_ok hcal hR))
          ⟨mm_blind, fun U hU hW => ⟨rfl, by rw [hU]; exact hI, hZ.go hW hU hS⟩⟩ rfl (by rw [List.length_map, List.length_reverse, List.length_take]; omega) hv.1 hst (by
              show 2 * 0 + _ ≤ 8
              rw [mm_sz_v]
              have := Nat.le_of_ble_eq_true hc.2.2
              omega) hd ⟨hcs.1, hcs.2⟩
        refine mm_callW hrun hS (fun H1 locs1 hI1 hS1 => ?_)
        have k2 := kk H1 locs1 ls hI1 hS1 hl hv
        rw [← e2]
        exact k2
    · cases hf
theorem sx_call {i : Instr} {z d : Nat} {S' : List Value} {as : List Value} {r : Option Value × mm_H} (X : mm_Cx p R s m args c cells slots g o cc) (hd : decode cc pc = .ok (i, n)) (hn : mm_len i n = true) (hR : d + 2 ≤ R.frames ∧ 64 * (d + 2) ≤ R.locals) (hf : mm_call o i S h = some (z, as, S')) (hM : mm_MetZ l g z d as h r) (kk : mm_J p l e R s m args below meth c cells slots Q g (pc + 3, L, r.1.toList ++ S', r.2)) : mm_J p l e R s m args below meth c cells slots Q g (pc, L, S, h) := by
  cases i with
  | invokevirtual k => exact sx_virtual X hd hn hR hf hM kk
  | invokestatic k => exact sx_static X hd hn hR hf hM kk
  | _ => cases hf
end SY
end
section
/-! THE SMALL MACHINE'S RUNS ARE THE LARGE ONE'S: the main row -/
theorem mm_lay_len (ad : Nat → Nat) : ∀ as : List Value, (lg_sl (as.map (mm_v ad))).length = (mm_lay as).length
  | [] => rfl
  | v :: t => by
    have h := mm_lay_len ad t
    unfold lg_sl at h ⊢
    rw [List.map_cons, List.flatMap_cons, List.length_append, h, mm_v_cat]
    rw [show mm_lay (v :: t) = (bif Nat.beq v.category 2 then some v :: none :: mm_lay t else some v :: mm_lay t) from rfl]
    cases hb : Nat.beq v.category 2 with
    | true => rw [if_pos (Nat.eq_of_beq_eq_true hb)]; simp only [cond_true, List.length_cons, List.length_nil]; omega
    | false =>
      rw [if_neg (fun q => by rw [q] at hb; cases hb)]
      simp only [cond_false, List.length_cons, List.length_nil]
      omega
theorem mm_lay_args (ad : Nat → Nat) : ∀ (as : List Value) (k j : Nat) (u : Value), (mm_lay as)[j]? = some (some u) → (k + j, mm_v ad u) ∈ lv_args k (as.map (mm_v ad))
  | [], k, j, u, h => by simp [mm_lay] at h
  | v :: t, k, j, u, h => by
    unfold mm_lay at h
    show (k + j, mm_v ad u) ∈ (k, mm_v ad v) :: lv_args (if (mm_v ad v).category = 2 then k + 2 else k + 1) (t.map (mm_v ad))
    rw [mm_v_cat]
    cases hb : Nat.beq v.category 2 with
    | true =>
      rw [hb] at h
      simp only [cond_true] at h
      rw [if_pos (Nat.eq_of_beq_eq_true hb)]
      match j, h with
      | 0, h => cases h; exact List.mem_cons_self
      | 1, h => cases h
      | j + 2, h =>
        have h2 := mm_lay_args ad t (k + 2) j u h
        rw [show k + (j + 2) = k + 2 + j by omega]
        exact List.mem_cons_of_mem _ h2
    | false =>
      rw [hb] at h
      simp only [cond_false] at h
      rw [if_neg (fun q => by rw [q] at hb; cases hb)]
      match j, h with
      | 0, h => cases h; exact List.mem_cons_self
      | j + 1, h =>
        have h2 := mm_lay_args ad t (k + 1) j u h
        rw [show k + (j + 1) = k + 1 + j by omega]
        exact List.mem_cons_of_mem _ h2
theorem mm_ent_len {n : Nat} {as : List Value} (h : (mm_lay as).length ≤ n) : (mm_ent n as).length = n := by
  unfold mm_ent
  rw [List.length_append, List.length_replicate]
  omega
theorem mm_ent_has {ad : Nat → Nat} {n : Nat} {as : List Value} {ls : Array Slot} (h : lv_has ls n (lv_args 0 (as.map (mm_v ad)))) : lv_has ls n (mm_lp ad (mm_ent n as)) := by
  refine mm_lp_sub h ?_
  rintro ⟨j, x⟩ hq
  obtain ⟨u, h1, h2⟩ := mm_lp_mem.mp hq
  simp only at h1 h2
  subst h2
  unfold mm_ent at h1
  rcases Nat.lt_or_ge j (mm_lay as).length with q | q
  · rw [List.getElem?_append_left q] at h1
    have h3 := mm_lay_args ad as 0 j u h1
    rw [Nat.zero_add] at h3
    exact h3
  · rw [List.getElem?_append_right q, List.getElem?_replicate] at h1
    split at h1 <;> cases h1
theorem mm_call_cal {o z : Nat} {i : Instr} {S as S' : List Value} {h : mm_H} (hf : mm_call o i S h = some (z, as, S')) : mm_cal z := by
  unfold mm_call at hf
  split at hf
  · split at hf
    · rename_i z9 hz9
      split at hf
      · split at hf
        · cases hc : Nat.beq _ (mm_M z9).2.2.2.2.2.2 && Nat.ble (mm_sz _) 8 with
          | false => rw [hc] at hf; cases hf
          | true => rw [hc] at hf; cases hf; exact (mm_vlk hz9).2.1
        · cases hf
      · cases hf
    · cases hf
  · rename_i k
    cases hne : mm_nest o k with
    | true =>
      rw [hne] at hf
      simp only [cond_true] at hf
      split at hf
      · cases hc : Nat.ble (mm_sz _) 8 with
        | false => rw [hc] at hf; cases hf
        | true => rw [hc] at hf; cases hf; exact mc_75
      · cases hf
    | false =>
      rw [hne] at hf
      simp only [cond_false] at hf
      split at hf
      · rename_i z9 hz9
        cases hc : Nat.blt z9 1000 && (Nat.ble (mm_M z9).2.2.2.2.2.1 S.length && Nat.ble (mm_sz (S.drop (mm_M z9).2.2.2.2.2.1)) 8) with
        | false => rw [hc] at hf; cases hf
        | true =>
          rw [hc] at hf
          cases hf
          rw [Bool.and_eq_true] at hc
          exact ((mm_slk hz9).1 (me_blt hc.1)).2.1
      · cases hf
  · cases hf
theorem mm_ret_of {rt : Option FieldType} {i : Instr} {S : List Value} {r : Option Value} (h : mm_ret rt i S = some r) :
    (i = .ireturn ∧ ∃ v : Int32, S = [.int v] ∧ r = some (.int v) ∧ (rt = some .int ∨ (rt = some .boolean ∧ (v = 0 ∨ v = 1)))) ∨ (i = .lreturn ∧ ∃ v : Int64, S = [.long v] ∧ r = some (.long v) ∧ rt = some .long) ∨ (i = .return_ ∧ S = [] ∧ r = none ∧ rt = none) := by
  unfold mm_ret at h
  split at h
  · split at h
    · cases h; exact Or.inl ⟨rfl, _, rfl, rfl, Or.inl rfl⟩
    · split at h
      · rename_i hv
        cases h
        exact Or.inl ⟨rfl, _, rfl, rfl, Or.inr ⟨rfl, hv⟩⟩
      · cases h
    · cases h
  · split at h
    · cases h; exact Or.inr (Or.inl ⟨rfl, _, rfl, rfl, rfl⟩)
    · cases h
  · split at h
    · cases h; exact Or.inr (Or.inr ⟨rfl, rfl, rfl, rfl⟩)
    · cases h
  · cases h
/-- a frame's run -/
def mm_Sim (l : Launch) (g : mm_G) (n : Nat) : Prop := ∀ (d y : Nat) (F : mm_F) (r : Option Value × mm_H), mm_run n d y F = some r → ∀ {p : Program} {e : Env} {R : Room} {s : State} {m : MethodId} {args : Array Value} {below : List Frame} {meth : Method} {c : Code} {cells slots : Nat} {Q : State → Prop},
  mm_Cx p R s m args c cells slots g (mm_M y).2.2.2.2.2.2 (mm_M y).2.2.1 → (d + 1 ≤ R.frames ∧ 64 * (d + 1) ≤ R.locals) →
  (∀ (H : Heap) (locs : List Loc) (ls : Array Slot) (pc : Nat) (i : Instr) (S : List Value), mm_I g r.2 H → va_S g.2.2.2.2.1 s.heap H locs → decode (mm_M y).2.2.1 pc = .ok (i, 1) → mm_ret (mm_M y).2.2.2.2.1 i S = some r.1 → W p l e R s m args below meth c H locs cells slots Q (F0 m pc ls (S.map (mm_v g.2.1)))) →
  mm_J p l e R s m args below meth c cells slots Q g F
theorem mm_met {l : Launch} {g : mm_G} {n d z : Nat} {as : List Value} {h : mm_H} {r : Option Value × mm_H} (ih : mm_Sim l g n) (hcal : mm_cal z) (hlen : (mm_lay as).length ≤ (mm_M z).2.2.2.1) (hrun : mm_run n d z (0, mm_ent (mm_M z).2.2.2.1 as, [], h) = some r) : mm_MetZ l g z d as h r := by
  refine Met.ofW (cc := (mm_M z).2.2.1) (maxL := (mm_M z).2.2.2.1) (ret := (mm_M z).2.2.2.2.1) hcal.2.2.1 rfl ?_
  intro p e s m args below meth c s₁ B hml hv
  obtain ⟨rfl, hI, hZ⟩ := hv
  have hx := B.exec
  have hb := B.bytes
  have hr := B.returns
  have hts := atoms_spec (ws := mm_ws z) B.pre
  have hown : s.vm.findClass (mm_M z).2.1.cls = some m.cls := findClass_of_methodNamed B.named
  have hlocks := B.notSynchronized
  rw [lg_entry_eq]
  have hl := lv_entry (as.map (mm_v g.2.1)) (n := (mm_M z).2.2.2.1) (by rw [mm_lay_len]; exact hlen)
  generalize (lg_sl (as.map (mm_v g.2.1)) ++ List.replicate ((mm_M z).2.2.2.1 - (lg_sl (as.map (mm_v g.2.1))).length) Slot.unset).toArray = ls at hl ⊢
  have hR1 : d + 1 ≤ (headSpec (mm_ws z) (mm_rm d)).room.frames ∧ 64 * (d + 1) ≤ (headSpec (mm_ws z) (mm_rm d)).room.locals := ⟨Nat.le_refl _, Nat.le_refl _⟩
  have hJ := ih d z _ r hrun (p := p) (e := e) (R := (headSpec (mm_ws z) (mm_rm d)).room) (s := s) (m := m) (args := (as.map (mm_v g.2.1)).toArray) (below := below) (meth := meth) (c := c) (cells := 0) (slots := 0) (Q := MQ below (mm_Qc g r.1 r.2) (as.map (mm_v g.2.1)).toArray s 0 0 g.2.2.2.2.1)
    ⟨hx, hb, by rw [hcal.2.2.2.2.2]; exact hown, fun w hw => hts w (List.mem_cons_of_mem _ hw), hZ, ⟨Nat.le_trans (Nat.le_add_left 1 d) hR1.1, Nat.le_trans (by omega) hR1.2⟩, ⟨Nat.zero_le _, Nat.zero_le _⟩⟩ hR1 (by
      intro H locs ls2 pc i S hI2 hS2 hd2 hret
      rcases mm_ret_of hret with ⟨rfl, v, rfl, e2, h3⟩ | ⟨rfl, v, rfl, e2, h3⟩ | ⟨rfl, rfl, e2, h3⟩
      · rcases h3 with h3 | ⟨h3, h4⟩
        · exact W.iret (v := v) hx hb (hr.trans h3) (fun t ht hW => ⟨by rw [e2]; rfl, by rw [ht]; exact hI2, hS2.F ht⟩) hS2.2.2 hd2
        · exact W.zret (v := v) (ty := .boolean) hx hb (hr.trans h3) (mm_nb h4).1 (fun t ht hW => ⟨by rw [e2]; rfl, by rw [ht]; exact hI2, hS2.F ht⟩) hS2.2.2 hd2
      · exact W.lret (v := v) hx hb (hr.trans h3) (fun t ht hW => ⟨by rw [e2]; rfl, by rw [ht]; exact hI2, hS2.F ht⟩) hS2.2.2 hd2
      · exact W.vret hx hb (hr.trans h3) (fun t ht hW => ⟨by rw [e2]; rfl, by rw [ht]; exact hI2, hS2.F ht⟩) hS2.2.2 hd2)
  exact hJ s.heap [] ls hI va_S.rf (by rw [hml]; exact mm_ent_len hlen) (by rw [hml]; exact mm_ent_has hl)
theorem mm_sim (l : Launch) (g : mm_G) : ∀ n : Nat, mm_Sim l g n
  | 0 => by
    intro d y F r hrun
    cases hrun
  | n + 1 => by
    intro d y F r hrun p e R s m args below meth c cells slots Q X hR hend
    obtain ⟨pc, L, S, h⟩ := F
    have ih := mm_sim l g n
    unfold mm_run at hrun
    split at hrun
    · cases hrun
    · rename_i i hfind
      obtain ⟨len, hd, hlen⟩ := mm_dec hfind
      split at hrun
      · rename_i r0 hr0
        cases hrun
        intro H locs ls hI hS hl hv
        have hlen1 : len = 1 := by
          rcases mm_ret_of hr0 with ⟨rfl, -⟩ | ⟨rfl, -⟩ | ⟨rfl, -⟩ <;> exact Nat.eq_of_beq_eq_true hlen
        subst hlen1
        exact hend H locs ls pc i S hI hS hd hr0
      · split at hrun
        · rename_i z as S' hcall
          split at hrun
          · cases hrun
          · rename_i d'
            cases hb : Nat.ble (mm_lay as).length (mm_M z).2.2.2.1 with
            | false => rw [hb] at hrun; cases hrun
            | true =>
              rw [hb] at hrun
              simp only [cond_true] at hrun
              split at hrun
              · cases hrun
              · rename_i r1 h1 hrun1
                have hM := mm_met (r := (r1, h1)) ih (mm_call_cal hcall) (Nat.le_of_ble_eq_true hb) hrun1
                exact sx_call X hd hlen ⟨hR.1, hR.2⟩ hcall hM (ih (d' + 1) y _ r hrun X hR hend)
        · split at hrun
          · cases hrun
          · rename_i F2 hF2
            exact mm_step X hd hlen hF2 (ih d y F2 r hrun X hR hend)
end
section
/-! how the small machine's runs are put together -/
def mm_s1 (y : Nat) (F : mm_F) : Option mm_F := match mm_find (mm_M y).1 F.1 with
  | none => none
  | some i => match mm_ret (mm_M y).2.2.2.2.1 i F.2.2.1 with
    | some _ => none
    | none => match mm_call (mm_M y).2.2.2.2.2.2 i F.2.2.1 F.2.2.2 with
      | some _ => none
      | none => mm_x (mm_M y).2.2.2.2.2.2 i F.1 F.2.1 F.2.2.1 F.2.2.2
def mm_sN : Nat → Nat → mm_F → Option mm_F
  | 0, _, F => some F
  | k + 1, y, F => match mm_s1 y F with
    | none => none
    | some F' => mm_sN k y F'
theorem mm_go1 {d y : Nat} {F F' : mm_F} {r : Option Value × mm_H} (h : mm_s1 y F = some F') (k : mm_Runs d y F' r) : mm_Runs d y F r := by
  obtain ⟨n, hn⟩ := k
  obtain ⟨pc, L, S, hh⟩ := F
  refine ⟨n + 1, ?_⟩
  unfold mm_s1 at h
  simp only at h
  unfold mm_run
  split at h
  · cases h
  · rename_i i hi
    rw [hi]
    simp only
    split at h
    · cases h
    · rename_i hr
      rw [hr]
      simp only
      split at h
      · cases h
      · rename_i hc
        rw [hc]
        simp only
        rw [h]
        exact hn
theorem mm_go : ∀ (k : Nat) {d y : Nat} {F F' : mm_F} {r : Option Value × mm_H}, mm_sN k y F = some F' → mm_Runs d y F' r → mm_Runs d y F r
  | 0, _, _, _, _, _, h, k => by cases h; exact k
  | n + 1, d, y, F, F', r, h, k => by
    unfold mm_sN at h
    split at h
    · cases h
    · rename_i F2 h2
      exact mm_go1 h2 (mm_go n h k)
/-- behind a test (an index, a divisor) -/
theorem mm_gd {d y : Nat} {F F' : mm_F} {r : Option Value × mm_H} {c : Prop} {dc : Decidable c} (h : mm_s1 y F = if c then none else some F') (hc : ¬ c) (k : mm_Runs d y F' r) : mm_Runs d y F r := mm_go1 (by rw [h, if_neg hc]) k
theorem mm_gt {d y : Nat} {F F' : mm_F} {r : Option Value × mm_H} {c : Prop} {dc : Decidable c} (h : mm_s1 y F = if c then some F' else none) (hc : c) (k : mm_Runs d y F' r) : mm_Runs d y F r := mm_go1 (by rw [h, if_pos hc]) k
theorem mm_gdt {d y : Nat} {F F' : mm_F} {r : Option Value × mm_H} {c b : Prop} {dc : Decidable c} {db : Decidable b} (h : mm_s1 y F = if c then none else if b then some F' else none) (hc : ¬ c) (hb : b) (k : mm_Runs d y F' r) : mm_Runs d y F r := mm_go1 (by rw [h, if_neg hc, if_pos hb]) k
section MB
variable {d y : Nat} {x z : Int32} {t f : Nat} {L : mm_L} {S : List Value} {h : mm_H} {r : Option Value × mm_H}
theorem mb_eq (kt : x = z → mm_Runs d y (t, L, S, h) r) (kf : ¬ x = z → mm_Runs d y (f, L, S, h) r) : mm_Runs d y (bif mm_cond .eq x z then t else f, L, S, h) r := by
  by_cases q : x = z
  · rw [show mm_cond .eq x z = true by simp [mm_cond, q]]; exact kt q
  · rw [show mm_cond .eq x z = false by simp [mm_cond, q]]; exact kf q
theorem mb_ne (kt : ¬ x = z → mm_Runs d y (t, L, S, h) r) (kf : x = z → mm_Runs d y (f, L, S, h) r) : mm_Runs d y (bif mm_cond .ne x z then t else f, L, S, h) r := by
  by_cases q : x = z
  · rw [show mm_cond .ne x z = false by simp [mm_cond, q]]; exact kf q
  · rw [show mm_cond .ne x z = true by simp [mm_cond, q]]; exact kt q
theorem mb_lt (kt : x < z → mm_Runs d y (t, L, S, h) r) (kf : ¬ x < z → mm_Runs d y (f, L, S, h) r) : mm_Runs d y (bif mm_cond .lt x z then t else f, L, S, h) r := by
  by_cases q : x < z
  · rw [show mm_cond .lt x z = true by simp [mm_cond, q]]; exact kt q
  · rw [show mm_cond .lt x z = false by simp [mm_cond, q]]; exact kf q
theorem mb_ge (kt : z ≤ x → mm_Runs d y (t, L, S, h) r) (kf : ¬ z ≤ x → mm_Runs d y (f, L, S, h) r) : mm_Runs d y (bif mm_cond .ge x z then t else f, L, S, h) r := by
  by_cases q : z ≤ x
  · rw [show mm_cond .ge x z = true by simp [mm_cond, q]]; exact kt q
  · rw [show mm_cond .ge x z = false by simp [mm_cond, q]]; exact kf q
theorem mb_gt (kt : z < x → mm_Runs d y (t, L, S, h) r) (kf : ¬ z < x → mm_Runs d y (f, L, S, h) r) : mm_Runs d y (bif mm_cond .gt x z then t else f, L, S, h) r := by
  by_cases q : z < x
  · rw [show mm_cond .gt x z = true by simp [mm_cond, q]]; exact kt q
  · rw [show mm_cond .gt x z = false by simp [mm_cond, q]]; exact kf q
theorem mb_le (kt : x ≤ z → mm_Runs d y (t, L, S, h) r) (kf : ¬ x ≤ z → mm_Runs d y (f, L, S, h) r) : mm_Runs d y (bif mm_cond .le x z then t else f, L, S, h) r := by
  by_cases q : x ≤ z
  · rw [show mm_cond .le x z = true by simp [mm_cond, q]]; exact kt q
  · rw [show mm_cond .le x z = false by simp [mm_cond, q]]; exact kf q
end MB
/-- the end of a method -/
theorem mm_rt {d y pc : Nat} {L : mm_L} {S : List Value} {h : mm_H} {i : Instr} {v : Option Value} {r : Option Value × mm_H} (hi : mm_find (mm_M y).1 pc = some i) (hr : mm_ret (mm_M y).2.2.2.2.1 i S = some v) (e : (v, h) = r) : mm_Runs d y (pc, L, S, h) r := by
  subst e
  refine ⟨1, ?_⟩
  unfold mm_run
  rw [hi]
  simp only
  rw [hr]
/-- the same, of a boolean -/
theorem mm_rtz {d y pc : Nat} {L : mm_L} {h : mm_H} {v : Int32} {r : Option Value × mm_H} (hi : mm_find (mm_M y).1 pc = some .ireturn) (hr : (mm_M y).2.2.2.2.1 = some .boolean) (hv : v = 0 ∨ v = 1) (e : (some (.int v), h) = r) : mm_Runs d y (pc, L, [.int v], h) r := by
  refine mm_rt hi (v := some (.int v)) ?_ e
  rw [hr]
  show (if v = 0 ∨ v = 1 then some (some (Value.int v)) else none) = _
  rw [if_pos hv]
theorem mm_run_le : ∀ (n : Nat) {d y : Nat} {F : mm_F} {r : Option Value × mm_H}, mm_run n d y F = some r → mm_run (n + 1) d y F = some r
  | 0, _, _, _, _, h => by cases h
  | n + 1, d, y, (pc, L, S, hh), r, h => by
    unfold mm_run at h
    unfold mm_run
    cases hi : mm_find (mm_M y).1 pc with
    | none => rw [hi] at h; cases h
    | some i =>
      rw [hi] at h
      simp only at h ⊢
      cases hr : mm_ret (mm_M y).2.2.2.2.1 i S with
      | some r0 => rw [hr] at h; exact h
      | none =>
        rw [hr] at h
        simp only at h ⊢
        cases hc : mm_call (mm_M y).2.2.2.2.2.2 i S hh with
        | some q =>
          obtain ⟨z, as, S'⟩ := q
          rw [hc] at h
          simp only at h ⊢
          cases d with
          | zero => cases h
          | succ d' =>
            simp only at h ⊢
            cases hb : Nat.ble (mm_lay as).length (mm_M z).2.2.2.1 with
            | false => rw [hb] at h; cases h
            | true =>
              rw [hb] at h
              simp only [cond_true] at h ⊢
              cases h1 : mm_run n d' z (0, mm_ent (mm_M z).2.2.2.1 as, [], hh) with
              | none => rw [h1] at h; cases h
              | some q1 =>
                rw [h1] at h
                rw [mm_run_le n h1]
                exact mm_run_le n h
        | none =>
          rw [hc] at h
          simp only at h ⊢
          cases hF : mm_x (mm_M y).2.2.2.2.2.2 i pc L S hh with
          | none => rw [hF] at h; cases h
          | some F2 =>
            rw [hF] at h
            exact mm_run_le n h
theorem mm_run_mono {n k d y : Nat} {F : mm_F} {r : Option Value × mm_H} (h : mm_run n d y F = some r) : mm_run (n + k) d y F = some r := by
  induction k with
  | zero => exact h
  | succ k ih => exact mm_run_le (n + k) ih
/-- a call -/
theorem mm_kl {d y pc z : Nat} {L L2 : mm_L} {S as S' : List Value} {h h1 : mm_H} {i : Instr} {v : Option Value} {r : Option Value × mm_H} (hi : mm_find (mm_M y).1 pc = some i) (hr : mm_ret (mm_M y).2.2.2.2.1 i S = none) (hc : mm_call (mm_M y).2.2.2.2.2.2 i S h = some (z, as, S')) (hb : Nat.ble (mm_lay as).length (mm_M z).2.2.2.1 = true) (hL : mm_ent (mm_M z).2.2.2.1 as = L2) (hd : 1 ≤ d)
    (hz : mm_Runs (d - 1) z (0, L2, [], h) (v, h1)) (k : mm_Runs d y (pc + 3, L, v.toList ++ S', h1) r) : mm_Runs d y (pc, L, S, h) r := by
  obtain ⟨n1, hn1⟩ := hz
  obtain ⟨n2, hn2⟩ := k
  refine ⟨n1 + n2 + 1, ?_⟩
  unfold mm_run
  rw [hi]
  simp only
  rw [hr]
  simp only
  rw [hc]
  simp only
  obtain ⟨d', rfl⟩ : ∃ d', d = d' + 1 := ⟨d - 1, by omega⟩
  simp only
  rw [hb]
  simp only [cond_true]
  rw [hL]
  have e1 := mm_run_mono (k := n2) hn1
  rw [show d' + 1 - 1 = d' by omega] at e1
  rw [e1]
  have e2 := mm_run_mono (k := n1) hn2
  rw [show n2 + n1 = n1 + n2 by omega] at e2
  exact e2
/-! locals that are no more needed may be forgotten -/
def mm_sub (L L' : mm_L) : Prop := L.length = L'.length ∧ ∀ (i : Nat) (u : Value), L[i]? = some (some u) → L'[i]? = some (some u)
theorem mm_sub_st1 {L L' : mm_L} {i : Nat} {v : Value} (h : mm_sub L L') : mm_sub (mm_st1 L i v) (mm_st1 L' i v) := by
  refine ⟨by rw [mm_st1_len, mm_st1_len]; exact h.1, fun j u e => ?_⟩
  have hlt : j < L.length := by
    have := (List.getElem?_eq_some_iff.mp e).1
    rwa [mm_st1_len] at this
  rcases mm_st1_get e with ⟨rfl, rfl⟩ | ⟨h1, h2, h3⟩
  · unfold mm_st1
    rw [List.getElem?_set_self]
    have := mm_st1_len L' j u
    unfold mm_st1 at this
    rw [List.length_set] at this
    rw [this, ← h.1]
    exact hlt
  · have h4 := h.2 j u h2
    unfold mm_st1
    rw [List.getElem?_set_ne (Ne.symm h1)]
    cases i with
    | zero => exact h4
    | succ i =>
      simp only
      cases hL : L'[i]? with
      | none => exact h4
      | some z =>
        cases z with
        | none => exact h4
        | some w =>
          simp only
          cases hb : Nat.beq w.category 2 with
          | false => exact h4
          | true =>
            simp only [cond_true]
            by_cases hj : j = i
            · subst hj
              rw [h4] at hL
              cases hL
              exact absurd ⟨rfl, Nat.eq_of_beq_eq_true hb⟩ h3
            · rw [List.getElem?_set_ne (Ne.symm hj)]
              exact h4
theorem mm_sub_set {L L' : mm_L} {i : Nat} (h : mm_sub L L') : mm_sub (L.set i none) (L'.set i none) := by
  refine ⟨by rw [List.length_set, List.length_set]; exact h.1, fun j u e => ?_⟩
  by_cases hj : j = i
  · subst hj
    rw [List.getElem?_set] at e
    simp only [if_true] at e
    split at e <;> cases e
  · rw [List.getElem?_set_ne (Ne.symm hj)] at e ⊢
    exact h.2 j u e
theorem mm_sub_st2 {L L' : mm_L} {i : Nat} {v : Value} (h : mm_sub L L') : mm_sub (mm_st2 L i v) (mm_st2 L' i v) := mm_sub_set (mm_sub_st1 h)
theorem mm_x_par {o : Nat} {i : Instr} {pc : Nat} {L L' : mm_L} {S : List Value} {h : mm_H} {F : mm_F} (hs : mm_sub L L') (key : ∀ L1 : mm_L, mm_x o i pc L1 S h = (mm_x o i pc L S h).map (fun G => (G.1, L1, G.2.2))) (e : mm_x o i pc L S h = some F) : ∃ L2, mm_x o i pc L' S h = some (F.1, L2, F.2.2.1, F.2.2.2) ∧ mm_sub F.2.1 L2 := by
  have h1 := key L
  rw [e] at h1
  have h2 : F = (F.1, L, F.2.2) := Option.some.inj h1
  have h3 : F.2.1 = L := by rw [h2]
  refine ⟨L', ?_, by rw [h3]; exact hs⟩
  rw [key L', e]
  rfl
theorem mm_x_sub {o : Nat} {i : Instr} {pc : Nat} {L L' : mm_L} {S : List Value} {h : mm_H} {F : mm_F} (hs : mm_sub L L') (e : mm_x o i pc L S h = some F) : ∃ L2, mm_x o i pc L' S h = some (F.1, L2, F.2.2.1, F.2.2.2) ∧ mm_sub F.2.1 L2 := by
  have ldi : ∀ {k : Nat} {f f2 : Int32 → Option mm_F}, mx_ldi L k f = some F → (∀ x, f x = some F → ∃ L2, f2 x = some (F.1, L2, F.2.2.1, F.2.2.2) ∧ mm_sub F.2.1 L2) → ∃ L2, mx_ldi L' k f2 = some (F.1, L2, F.2.2.1, F.2.2.2) ∧ mm_sub F.2.1 L2 := by
    intro k f f2 e1 e2
    obtain ⟨x, hx, hf⟩ := me_ldi e1
    obtain ⟨L2, h1, h2⟩ := e2 x hf
    exact ⟨L2, by unfold mx_ldi; rw [hs.2 k _ hx]; exact h1, h2⟩
  have ldl : ∀ {k : Nat} {f f2 : Int64 → Option mm_F}, mx_ldl L k f = some F → (∀ x, f x = some F → ∃ L2, f2 x = some (F.1, L2, F.2.2.1, F.2.2.2) ∧ mm_sub F.2.1 L2) → ∃ L2, mx_ldl L' k f2 = some (F.1, L2, F.2.2.1, F.2.2.2) ∧ mm_sub F.2.1 L2 := by
    intro k f f2 e1 e2
    obtain ⟨x, hx, hf⟩ := me_ldl e1
    obtain ⟨L2, h1, h2⟩ := e2 x hf
    exact ⟨L2, by unfold mx_ldl; rw [hs.2 k _ hx]; exact h1, h2⟩
  have lda : ∀ {k : Nat} {f f2 : Nat → Option mm_F}, mx_lda L k f = some F → (∀ x, f x = some F → ∃ L2, f2 x = some (F.1, L2, F.2.2.1, F.2.2.2) ∧ mm_sub F.2.1 L2) → ∃ L2, mx_lda L' k f2 = some (F.1, L2, F.2.2.1, F.2.2.2) ∧ mm_sub F.2.1 L2 := by
    intro k f f2 e1 e2
    obtain ⟨x, hx, hf⟩ := me_lda e1
    obtain ⟨L2, h1, h2⟩ := e2 x hf
    exact ⟨L2, by unfold mx_lda; rw [hs.2 k _ hx]; exact h1, h2⟩
  cases i with
  | iload_n k => exact ldi e (fun x q => by cases q; exact ⟨L', rfl, hs⟩)
  | iload k => exact ldi e (fun x q => by cases q; exact ⟨L', rfl, hs⟩)
  | lload_n k => exact ldl e (fun x q => by cases q; exact ⟨L', rfl, hs⟩)
  | lload k => exact ldl e (fun x q => by cases q; exact ⟨L', rfl, hs⟩)
  | aload_n k => exact lda e (fun x q => by cases q; exact ⟨L', rfl, hs⟩)
  | aload k => exact lda e (fun x q => by cases q; exact ⟨L', rfl, hs⟩)
  | iinc k n => exact ldi e (fun x q => by
      obtain ⟨hlt, q⟩ := me_bif q
      cases q
      exact ⟨_, by rw [← hs.1, hlt]; rfl, mm_sub_st1 hs⟩)
  | istore_n k =>
    obtain ⟨x, T, rfl, hf⟩ := me_1i e
    obtain ⟨hlt, hf⟩ := me_bif hf
    cases hf
    exact ⟨_, by show (bif Nat.blt k.val L'.length then _ else none) = _; rw [← hs.1, hlt]; rfl, mm_sub_st1 hs⟩
  | istore k =>
    obtain ⟨x, T, rfl, hf⟩ := me_1i e
    obtain ⟨hlt, hf⟩ := me_bif hf
    cases hf
    exact ⟨_, by show (bif Nat.blt k L'.length then _ else none) = _; rw [← hs.1, hlt]; rfl, mm_sub_st1 hs⟩
  | lstore_n k =>
    obtain ⟨x, T, rfl, hf⟩ := me_1l e
    obtain ⟨hlt, hf⟩ := me_bif hf
    cases hf
    exact ⟨_, by show (bif Nat.blt (k.val + 1) L'.length then _ else none) = _; rw [← hs.1, hlt]; rfl, mm_sub_st2 hs⟩
  | lstore k =>
    obtain ⟨x, T, rfl, hf⟩ := me_1l e
    obtain ⟨hlt, hf⟩ := me_bif hf
    cases hf
    exact ⟨_, by show (bif Nat.blt (k + 1) L'.length then _ else none) = _; rw [← hs.1, hlt]; rfl, mm_sub_st2 hs⟩
  | astore_n k =>
    obtain ⟨x, T, rfl, hf⟩ := me_1r e
    obtain ⟨hlt, hf⟩ := me_bif hf
    cases hf
    exact ⟨_, by show (bif Nat.blt k.val L'.length then _ else none) = _; rw [← hs.1, hlt]; rfl, mm_sub_st1 hs⟩
  | astore k =>
    obtain ⟨x, T, rfl, hf⟩ := me_1r e
    obtain ⟨hlt, hf⟩ := me_bif hf
    cases hf
    exact ⟨_, by show (bif Nat.blt k L'.length then _ else none) = _; rw [← hs.1, hlt]; rfl, mm_sub_st1 hs⟩
  | _ =>
    refine mm_x_par hs (fun L1 => ?_) e
    simp only [mm_x, mx_1i, mx_2i, mx_1l, mx_2l, mx_il, mx_1r, mx_ri, mx_rii, mx_ril, mx_to, mx_ai, mx_al, mx_ab, mx_ar, mx_an, mx_ob, Bool.cond_eq_ite]
    repeat' split
    all_goals first | rfl | simp_all
theorem mm_weakN : ∀ (n : Nat) {d y pc : Nat} {L L' : mm_L} {S : List Value} {h : mm_H} {r : Option Value × mm_H}, mm_sub L L' → mm_run n d y (pc, L, S, h) = some r → mm_run n d y (pc, L', S, h) = some r
  | 0, _, _, _, _, _, _, _, _, _, e => by cases e
  | n + 1, d, y, pc, L, L', S, hh, r, hs, h => by
    unfold mm_run at h
    unfold mm_run
    cases hi : mm_find (mm_M y).1 pc with
    | none => rw [hi] at h; cases h
    | some i =>
      rw [hi] at h
      simp only at h ⊢
      cases hr : mm_ret (mm_M y).2.2.2.2.1 i S with
      | some r0 => rw [hr] at h; exact h
      | none =>
        rw [hr] at h
        simp only at h ⊢
        cases hc : mm_call (mm_M y).2.2.2.2.2.2 i S hh with
        | some q =>
          obtain ⟨z, as, S'⟩ := q
          rw [hc] at h
          simp only at h ⊢
          cases d with
          | zero => cases h
          | succ d' =>
            simp only at h ⊢
            cases hb : Nat.ble (mm_lay as).length (mm_M z).2.2.2.1 with
            | false => rw [hb] at h; cases h
            | true =>
              rw [hb] at h
              simp only [cond_true] at h ⊢
              cases h1 : mm_run n d' z (0, mm_ent (mm_M z).2.2.2.1 as, [], hh) with
              | none => rw [h1] at h; cases h
              | some q1 =>
                rw [h1] at h
                exact mm_weakN n hs h
        | none =>
          rw [hc] at h
          simp only at h ⊢
          cases hF : mm_x (mm_M y).2.2.2.2.2.2 i pc L S hh with
          | none => rw [hF] at h; cases h
          | some F2 =>
            rw [hF] at h
            obtain ⟨L2, h1, h2⟩ := mm_x_sub hs hF
            rw [h1]
            exact mm_weakN n h2 h
def mm_subb : mm_L → mm_L → Prop
  | [], [] => True
  | none :: t, _ :: t' => mm_subb t t'
  | some v :: t, some w :: t' => v = w ∧ mm_subb t t'
  | _, _ => False
theorem mm_subb_ok : ∀ {L L' : mm_L}, mm_subb L L' → mm_sub L L'
  | [], [], _ => ⟨rfl, fun i u e => e⟩
  | [], _ :: _, h => by cases h
  | none :: t, [], h => by cases h
  | some _ :: t, [], h => by cases h
  | some v :: t, none :: t', h => by cases h
  | none :: t, x :: t', h => by
    obtain ⟨h1, h2⟩ := mm_subb_ok (L := t) (L' := t') (by cases x <;> exact h)
    refine ⟨by simp only [List.length_cons, h1], fun i u e => ?_⟩
    cases i with
    | zero => cases e
    | succ i => exact h2 i u e
  | some v :: t, some w :: t', h => by
    obtain ⟨rfl, h⟩ := h
    obtain ⟨h1, h2⟩ := mm_subb_ok h
    refine ⟨by simp only [List.length_cons, h1], fun i u e => ?_⟩
    cases i with
    | zero => exact e
    | succ i => exact h2 i u e
/-- locals that are no more needed are forgotten -/
theorem mm_wk {d y pc : Nat} {L L' : mm_L} {S : List Value} {h : mm_H} {r : Option Value × mm_H} (hs : mm_subb L L') (k : mm_Runs d y (pc, L, S, h) r) : mm_Runs d y (pc, L', S, h) r := by
  obtain ⟨n, hn⟩ := k
  exact ⟨n, mm_weakN n (mm_subb_ok hs) hn⟩
end
section
/-! the cells, as they lie behind the constructors (written by wip/whole/vc.py) -/
abbrev mm_S : Type := (Nat → Int32) × (Nat → Int64) × (Nat → Nat → Int32) × (Nat → Nat → Int64)
def mm_up {α : Type} (f : Nat → α) (k : Nat) (x : α) : Nat → α := fun j => bif Nat.beq j k then x else f j
def ui (σ : mm_S) (k : Nat) (x : Int32) : mm_S := (mm_up σ.1 k x, σ.2)
def ul (σ : mm_S) (k : Nat) (x : Int64) : mm_S := (σ.1, mm_up σ.2.1 k x, σ.2.2)
def ua (σ : mm_S) (q : Nat) (f : Nat → Int32) : mm_S := (σ.1, σ.2.1, mm_up σ.2.2.1 q f, σ.2.2.2)
def ub (σ : mm_S) (q : Nat) (f : Nat → Int64) : mm_S := (σ.1, σ.2.1, σ.2.2.1, mm_up σ.2.2.2 q f)
/-- the array of the four sheets -/
def mm_she : Nat → Option Nat := va_up (va_up (va_up (va_up (fun _ => none) 0 (some 4)) 1 (some 5)) 2 (some 6)) 3 (some 7)
def HH (x : Nat × (Nat → Int32)) (σ : mm_S) : mm_H := [.inl (0, 3, .inl mm_reach), .inl (0, x.1, .inl x.2), .inr (6, [.ref 3, .ref 12, .ref 13, .ref 16, .ref 20, .ref 24, .ref 28, .ref 29, .ref 36, .int (σ.1 209), .int (σ.1 210)]), .inl (3, 4, .inr (.inr (.inr (.inr mm_she)))), .inr (4, [.ref 8, .int (σ.1 401), .int (σ.1 402), .int (σ.1 403)]), .inr (4, [.ref 9, .int (σ.1 501), .int (σ.1 502), .int (σ.1 503)]), .inr (4, [.ref 10, .int (σ.1 601), .int (σ.1 602), .int (σ.1 603)]), .inr (4, [.ref 11, .int (σ.1 701), .int (σ.1 702), .int (σ.1 703)]), .inl (0, 60, .inl (σ.2.2.1 8)), .inl (0, 60, .inl (σ.2.2.1 9)), .inl (0, 60, .inl (σ.2.2.1 10)), .inl (0, 60, .inl (σ.2.2.1 11)), .inr (3, [.int (σ.1 1200), .int (σ.1 1201), .long (σ.2.1 1202)]), .inr (2, [.ref 14, .ref 15, .long (σ.2.1 1302), .long (σ.2.1 1303), .long (σ.2.1 1304), .int (σ.1 1305), .int (σ.1 1306), .long (σ.2.1 1307)]), .inl (1, 1764, .inr (.inl (σ.2.2.2 14))), .inl (0, 42, .inl (σ.2.2.1 15)), .inr (0, [.ref 17, .ref 18, .ref 19, .int (σ.1 1603)]), .inl (0, 8, .inl (σ.2.2.1 17)), .inl (0, 8, .inl (σ.2.2.1 18)), .inl (0, 8, .inl (σ.2.2.1 19)), .inr (0, [.ref 21, .ref 22, .ref 23, .int (σ.1 2003)]), .inl (0, 6, .inl (σ.2.2.1 21)), .inl (0, 6, .inl (σ.2.2.1 22)), .inl (0, 6, .inl (σ.2.2.1 23)), .inr (0, [.ref 25, .ref 26, .ref 27, .int (σ.1 2403)]), .inl (0, 6, .inl (σ.2.2.1 25)), .inl (0, 6, .inl (σ.2.2.1 26)), .inl (0, 6, .inl (σ.2.2.1 27)), .inr (1, [.int (σ.1 2800), .int (σ.1 2801)]), .inr (5, [.ref 30, .ref 31, .ref 32, .ref 33, .int (σ.1 2904), .ref 34, .ref 35, .int (σ.1 2907)]), .inl (1, 36, .inr (.inl (σ.2.2.2 30))), .inl (1, 36, .inr (.inl (σ.2.2.2 31))), .inl (1, 36, .inr (.inl (σ.2.2.2 32))), .inl (0, 6, .inl (σ.2.2.1 33)), .inl (0, 6, .inl (σ.2.2.1 34)), .inl (0, 6, .inl (σ.2.2.1 35)), .inl (0, 6, .inl (σ.2.2.1 36)), .inr (7, [.int (σ.1 3700), .int (σ.1 3701), .ref 38, .ref 39, .ref 40, .int (σ.1 3705), .int (σ.1 3706), .ref 41, .ref 42, .int (σ.1 3709), .int (σ.1 3710), .int (σ.1 3711), .ref 43, .int (σ.1 3713), .ref 44, .ref 45, .ref 46, .int (σ.1 3717), .int (σ.1 3718), .int (σ.1 3719), .int (σ.1 3720), .ref 47, .ref 48, .ref 49, .ref 50, .int (σ.1 3725), .ref 51, .ref 52]), .inl (0, 4, .inl (σ.2.2.1 38)), .inl (0, 4, .inl (σ.2.2.1 39)), .inl (0, 240, .inl (σ.2.2.1 40)), .inl (2, 42, .inl (σ.2.2.1 41)), .inl (0, 1764, .inl (σ.2.2.1 42)), .inl (2, 42, .inl (σ.2.2.1 43)), .inl (0, 8, .inl (σ.2.2.1 44)), .inl (0, 8, .inl (σ.2.2.1 45)), .inl (0, 8, .inl (σ.2.2.1 46)), .inl (0, 6, .inl (σ.2.2.1 47)), .inl (0, 6, .inl (σ.2.2.1 48)), .inl (2, 3636, .inl (σ.2.2.1 49)), .inl (0, 6, .inl (σ.2.2.1 50)), .inl (0, 6, .inl (σ.2.2.1 51)), .inl (0, 6, .inl (σ.2.2.1 52))]
def mm_b (p : Prop) {_ : Decidable p} : Int32 := if p then 1 else 0
theorem mm_b01 (p : Prop) {d : Decidable p} : @mm_b p d = 0 ∨ @mm_b p d = 1 := by
  unfold mm_b
  split
  · exact Or.inr rfl
  · exact Or.inl rfl
theorem mm_b_pos {p : Prop} {d : Decidable p} (h : p) : @mm_b p d = 1 := if_pos h
theorem mm_b_neg {p : Prop} {d : Decidable p} (h : ¬ p) : @mm_b p d = 0 := if_neg h
theorem mm_b_ne {p : Prop} {d : Decidable p} : ¬ @mm_b p d = 0 ↔ p := by
  by_cases h : p
  · rw [mm_b_pos h]; exact ⟨fun _ => h, fun _ => by decide⟩
  · rw [mm_b_neg h]; exact ⟨fun q => absurd rfl q, fun q => absurd q h⟩
section MB2
variable {d y : Nat} {t f : Nat} {L : mm_L} {S : List Value} {h : mm_H} {r : Option Value × mm_H}
theorem mb_bne {p : Prop} {dp : Decidable p} (kt : p → mm_Runs d y (t, L, S, h) r) (kf : ¬ p → mm_Runs d y (f, L, S, h) r) : mm_Runs d y (bif mm_cond .ne (@mm_b p dp) 0 then t else f, L, S, h) r := mb_ne (fun q => kt (mm_b_ne.mp q)) (fun q => kf (fun z => mm_b_ne.mpr z q))
theorem mb_beq {p : Prop} {dp : Decidable p} (kt : ¬ p → mm_Runs d y (t, L, S, h) r) (kf : p → mm_Runs d y (f, L, S, h) r) : mm_Runs d y (bif mm_cond .eq (@mm_b p dp) 0 then t else f, L, S, h) r := mb_eq (fun q => kt (fun z => mm_b_ne.mpr z q)) (fun q => kf (mm_b_ne.mp q))
theorem lg_cmp_0 {x z : Int64} : lg_cmp x z = 0 ↔ x = z := by
  unfold lg_cmp
  by_cases h1 : x > z
  · rw [if_pos h1]
    exact ⟨fun q => absurd q (by decide), fun q => by subst q; exact absurd h1 (by simp)⟩
  · rw [if_neg h1]
    by_cases h2 : x = z
    · rw [if_pos h2]; exact ⟨fun _ => h2, fun _ => rfl⟩
    · rw [if_neg h2]; exact ⟨fun q => absurd q (by decide), fun q => absurd q h2⟩
theorem mb_lne {x z : Int64} (kt : ¬ x = z → mm_Runs d y (t, L, S, h) r) (kf : x = z → mm_Runs d y (f, L, S, h) r) : mm_Runs d y (bif mm_cond .ne (lg_cmp x z) 0 then t else f, L, S, h) r := mb_ne (fun q => kt (fun e => q (lg_cmp_0.mpr e))) (fun q => kf (lg_cmp_0.mp q))
theorem mb_leq {x z : Int64} (kt : x = z → mm_Runs d y (t, L, S, h) r) (kf : ¬ x = z → mm_Runs d y (f, L, S, h) r) : mm_Runs d y (bif mm_cond .eq (lg_cmp x z) 0 then t else f, L, S, h) r := mb_eq (fun q => kt (lg_cmp_0.mp q)) (fun q => kf (fun e => q (lg_cmp_0.mpr e)))
/-- a switch: one of its cases; none of them -/
theorem mm_tsI {pc : Nat} {x c : Int32} {F' : mm_F} (e : x = c) (hs : mm_s1 y (pc, L, .int c :: S, h) = some F') (k : mm_Runs d y F' r) : mm_Runs d y (pc, L, .int x :: S, h) r := by
  subst e
  exact mm_go1 hs k
theorem mm_ti {F F' : mm_F} {c : Prop} {dc : Decidable c} {E : Option mm_F} (hs : mm_s1 y F = if c then some F' else E) (hc : c) (k : mm_Runs d y F' r) : mm_Runs d y F r := mm_go1 (by rw [hs, if_pos hc]) k
end MB2
end
section
/-! THE CONSTRUCTORS, over the large machine (written by wip/whole/gencon.py) -/
theorem md_0 : ∀ j, j < 4 → defaultValue (tyX0 j) = vp_V [.null, .null, .null, .int 0] j := by decide +kernel
theorem md_1 : ∀ j, j < 2 → defaultValue (tyX1 j) = vp_V [.int 0, .int 0] j := by decide +kernel
theorem md_2 : ∀ j, j < 8 → defaultValue (tyX2 j) = vp_V [.null, .null, .long 0, .long 0, .long 0, .int 0, .int 0, .long 0] j := by decide +kernel
theorem md_3 : ∀ j, j < 3 → defaultValue (tyX3 j) = vp_V [.int 0, .int 0, .long 0] j := by decide +kernel
theorem md_4 : ∀ j, j < 4 → defaultValue (tyX4 j) = vp_V [.null, .int 0, .int 0, .int 0] j := by decide +kernel
theorem md_5 : ∀ j, j < 8 → defaultValue (tyX5 j) = vp_V [.null, .null, .null, .null, .int 0, .null, .null, .int 0] j := by decide +kernel
theorem md_6 : ∀ j, j < 11 → defaultValue (tyX6 j) = vp_V [.null, .null, .null, .null, .null, .null, .null, .null, .null, .int 0, .int 0] j := by decide +kernel
theorem md_7 : ∀ j, j < 28 → defaultValue (tyX7 j) = vp_V [.int 0, .int 0, .null, .null, .null, .int 0, .int 0, .null, .null, .int 0, .int 0, .int 0, .null, .int 0, .null, .null, .null, .int 0, .int 0, .int 0, .int 0, .null, .null, .null, .null, .int 0, .null, .null] j := by decide +kernel
theorem wo_inst : Cond.instanceMethod objectInit ∈ mm_TB := (mm_t1 (w := .instanceMethod objectInit) 20 (by decide +kernel) (by decide +kernel))
theorem wo_code : Cond.code objectInit ⟨#[0xb1]⟩ 1 none ∈ mm_TB := (mm_t1 (w := .code objectInit ⟨#[0xb1]⟩ 1 none) 21 (by decide +kernel) (by decide +kernel))
theorem wa_int : Cond.arrayClass .int ∈ mm_TB := (mm_t1 (w := .arrayClass .int) 46 (by decide +kernel) (by decide +kernel))
theorem wa_long : Cond.arrayClass .long ∈ mm_TB := (mm_t1 (w := .arrayClass .long) 100 (by decide +kernel) (by decide +kernel))
theorem wa_boolean : Cond.arrayClass .boolean ∈ mm_TB := (mm_t3 (w := .arrayClass .boolean) 223 (by decide +kernel) (by decide +kernel))
theorem wc_code_0 : Cond.code yX0_init cX0_init 2 none ∈ mm_TB := (mm_t1 (w := .code yX0_init cX0_init 2 none) 105 (by decide +kernel) (by decide +kernel))
theorem wc_inst_0 : Cond.instanceMethod yX0_init ∈ mm_TB := (mm_t1 (w := .instanceMethod yX0_init) 104 (by decide +kernel) (by decide +kernel))
theorem wc_able_0 : Cond.instantiable RX0 4 ∈ mm_TB := (mm_t1 (w := .instantiable RX0 4) 102 (by decide +kernel) (by decide +kernel))
theorem wc_ini_0 : Cond.initialized RX0 ∈ mm_TB := (mm_t1 (w := .initialized RX0) 5 (by decide +kernel) (by decide +kernel))
theorem wc_code_1 : Cond.code yX1_init cX1_init 1 none ∈ mm_TB := (mm_t1 (w := .code yX1_init cX1_init 1 none) 131 (by decide +kernel) (by decide +kernel))
theorem wc_inst_1 : Cond.instanceMethod yX1_init ∈ mm_TB := (mm_t1 (w := .instanceMethod yX1_init) 130 (by decide +kernel) (by decide +kernel))
theorem wc_able_1 : Cond.instantiable RX1 2 ∈ mm_TB := (mm_t1 (w := .instantiable RX1 2) 128 (by decide +kernel) (by decide +kernel))
theorem wc_ini_1 : Cond.initialized RX1 ∈ mm_TB := (mm_t1 (w := .initialized RX1) 6 (by decide +kernel) (by decide +kernel))
theorem wc_code_2 : Cond.code yX2_init cX2_init 1 none ∈ mm_TB := (mm_t1 (w := .code yX2_init cX2_init 1 none) 70 (by decide +kernel) (by decide +kernel))
theorem wc_inst_2 : Cond.instanceMethod yX2_init ∈ mm_TB := (mm_t1 (w := .instanceMethod yX2_init) 69 (by decide +kernel) (by decide +kernel))
theorem wc_able_2 : Cond.instantiable RX2 8 ∈ mm_TB := (mm_t1 (w := .instantiable RX2 8) 67 (by decide +kernel) (by decide +kernel))
theorem wc_ini_2 : Cond.initialized RX2 ∈ mm_TB := (mm_t1 (w := .initialized RX2) 4 (by decide +kernel) (by decide +kernel))
theorem wc_code_3 : Cond.code yX3_init cX3_init 1 none ∈ mm_TB := (mm_t1 (w := .code yX3_init cX3_init 1 none) 51 (by decide +kernel) (by decide +kernel))
theorem wc_inst_3 : Cond.instanceMethod yX3_init ∈ mm_TB := (mm_t1 (w := .instanceMethod yX3_init) 50 (by decide +kernel) (by decide +kernel))
theorem wc_able_3 : Cond.instantiable RX3 3 ∈ mm_TB := (mm_t1 (w := .instantiable RX3 3) 48 (by decide +kernel) (by decide +kernel))
theorem wc_ini_3 : Cond.initialized RX3 ∈ mm_TB := (mm_t1 (w := .initialized RX3) 3 (by decide +kernel) (by decide +kernel))
theorem wc_code_4 : Cond.code yX4_init cX4_init 1 none ∈ mm_TB := (mm_t1 (w := .code yX4_init cX4_init 1 none) 27 (by decide +kernel) (by decide +kernel))
theorem wc_inst_4 : Cond.instanceMethod yX4_init ∈ mm_TB := (mm_t1 (w := .instanceMethod yX4_init) 26 (by decide +kernel) (by decide +kernel))
theorem wc_able_4 : Cond.instantiable RX4 4 ∈ mm_TB := (mm_t1 (w := .instantiable RX4 4) 24 (by decide +kernel) (by decide +kernel))
theorem wc_ini_4 : Cond.initialized RX4 ∈ mm_TB := (mm_t1 (w := .initialized RX4) 2 (by decide +kernel) (by decide +kernel))
theorem wc_code_5 : Cond.code yX5_init cX5_init 1 none ∈ mm_TB := (mm_t1 (w := .code yX5_init cX5_init 1 none) 146 (by decide +kernel) (by decide +kernel))
theorem wc_inst_5 : Cond.instanceMethod yX5_init ∈ mm_TB := (mm_t1 (w := .instanceMethod yX5_init) 145 (by decide +kernel) (by decide +kernel))
theorem wc_able_5 : Cond.instantiable RX5 8 ∈ mm_TB := (mm_t1 (w := .instantiable RX5 8) 143 (by decide +kernel) (by decide +kernel))
theorem wc_ini_5 : Cond.initialized RX5 ∈ mm_TB := (mm_t1 (w := .initialized RX5) 7 (by decide +kernel) (by decide +kernel))
theorem wc_code_6 : Cond.code yX6_init cX6_init 2 none ∈ mm_TB := (mm_t1 (w := .code yX6_init cX6_init 2 none) 18 (by decide +kernel) (by decide +kernel))
theorem wc_inst_6 : Cond.instanceMethod yX6_init ∈ mm_TB := (mm_t1 (w := .instanceMethod yX6_init) 17 (by decide +kernel) (by decide +kernel))
theorem wc_able_6 : Cond.instantiable RX6 11 ∈ mm_TB := (mm_t1 (w := .instantiable RX6 11) 15 (by decide +kernel) (by decide +kernel))
theorem wc_ini_6 : Cond.initialized RX6 ∈ mm_TB := (mm_t1 (w := .initialized RX6) 1 (by decide +kernel) (by decide +kernel))
theorem wc_code_7 : Cond.code yX7_init cX7_init 1 none ∈ mm_TB := (mm_t3 (w := .code yX7_init cX7_init 1 none) 136 (by decide +kernel) (by decide +kernel))
theorem wc_inst_7 : Cond.instanceMethod yX7_init ∈ mm_TB := (mm_t3 (w := .instanceMethod yX7_init) 135 (by decide +kernel) (by decide +kernel))
theorem wc_able_7 : Cond.instantiable RX7 28 ∈ mm_TB := (mm_t3 (w := .instantiable RX7 28) 133 (by decide +kernel) (by decide +kernel))
theorem wc_ini_7 : Cond.initialized RX7 ∈ mm_TB := (mm_t1 (w := .initialized RX7) 8 (by decide +kernel) (by decide +kernel))
theorem di_0_0 : decode cX0_init 0 = .ok (.aload_n 0, 1) := by decide +kernel
theorem di_0_1 : decode cX0_init 1 = .ok (.invokespecial 3, 3) := by decide +kernel
theorem di_0_4 : decode cX0_init 4 = .ok (.aload_n 0, 1) := by decide +kernel
theorem di_0_5 : decode cX0_init 5 = .ok (.iload_n 1, 1) := by decide +kernel
theorem di_0_6 : decode cX0_init 6 = .ok (.newarray .int, 2) := by decide +kernel
theorem di_0_8 : decode cX0_init 8 = .ok (.putfield 9, 3) := by decide +kernel
theorem di_0_11 : decode cX0_init 11 = .ok (.aload_n 0, 1) := by decide +kernel
theorem di_0_12 : decode cX0_init 12 = .ok (.iload_n 1, 1) := by decide +kernel
theorem di_0_13 : decode cX0_init 13 = .ok (.newarray .int, 2) := by decide +kernel
theorem di_0_15 : decode cX0_init 15 = .ok (.putfield 15, 3) := by decide +kernel
theorem di_0_18 : decode cX0_init 18 = .ok (.aload_n 0, 1) := by decide +kernel
theorem di_0_19 : decode cX0_init 19 = .ok (.iload_n 1, 1) := by decide +kernel
theorem di_0_20 : decode cX0_init 20 = .ok (.newarray .int, 2) := by decide +kernel
theorem di_0_22 : decode cX0_init 22 = .ok (.putfield 18, 3) := by decide +kernel
theorem di_0_25 : decode cX0_init 25 = .ok (.return_, 1) := by decide +kernel
theorem di_1_0 : decode cX1_init 0 = .ok (.aload_n 0, 1) := by decide +kernel
theorem di_1_1 : decode cX1_init 1 = .ok (.invokespecial 1, 3) := by decide +kernel
theorem di_1_4 : decode cX1_init 4 = .ok (.return_, 1) := by decide +kernel
theorem di_2_0 : decode cX2_init 0 = .ok (.aload_n 0, 1) := by decide +kernel
theorem di_2_1 : decode cX2_init 1 = .ok (.invokespecial 3, 3) := by decide +kernel
theorem di_2_4 : decode cX2_init 4 = .ok (.aload_n 0, 1) := by decide +kernel
theorem di_2_5 : decode cX2_init 5 = .ok (.sipush 1764, 3) := by decide +kernel
theorem di_2_8 : decode cX2_init 8 = .ok (.newarray .long, 2) := by decide +kernel
theorem di_2_10 : decode cX2_init 10 = .ok (.putfield 11, 3) := by decide +kernel
theorem di_2_13 : decode cX2_init 13 = .ok (.aload_n 0, 1) := by decide +kernel
theorem di_2_14 : decode cX2_init 14 = .ok (.bipush 42, 2) := by decide +kernel
theorem di_2_16 : decode cX2_init 16 = .ok (.newarray .int, 2) := by decide +kernel
theorem di_2_18 : decode cX2_init 18 = .ok (.putfield 15, 3) := by decide +kernel
theorem di_2_21 : decode cX2_init 21 = .ok (.return_, 1) := by decide +kernel
theorem di_3_0 : decode cX3_init 0 = .ok (.aload_n 0, 1) := by decide +kernel
theorem di_3_1 : decode cX3_init 1 = .ok (.invokespecial 1, 3) := by decide +kernel
theorem di_3_4 : decode cX3_init 4 = .ok (.return_, 1) := by decide +kernel
theorem di_4_0 : decode cX4_init 0 = .ok (.aload_n 0, 1) := by decide +kernel
theorem di_4_1 : decode cX4_init 1 = .ok (.invokespecial 1, 3) := by decide +kernel
theorem di_4_4 : decode cX4_init 4 = .ok (.aload_n 0, 1) := by decide +kernel
theorem di_4_5 : decode cX4_init 5 = .ok (.bipush 60, 2) := by decide +kernel
theorem di_4_7 : decode cX4_init 7 = .ok (.newarray .int, 2) := by decide +kernel
theorem di_4_9 : decode cX4_init 9 = .ok (.putfield 9, 3) := by decide +kernel
theorem di_4_12 : decode cX4_init 12 = .ok (.return_, 1) := by decide +kernel
theorem di_5_0 : decode cX5_init 0 = .ok (.aload_n 0, 1) := by decide +kernel
theorem di_5_1 : decode cX5_init 1 = .ok (.invokespecial 3, 3) := by decide +kernel
theorem di_5_4 : decode cX5_init 4 = .ok (.aload_n 0, 1) := by decide +kernel
theorem di_5_5 : decode cX5_init 5 = .ok (.bipush 36, 2) := by decide +kernel
theorem di_5_7 : decode cX5_init 7 = .ok (.newarray .long, 2) := by decide +kernel
theorem di_5_9 : decode cX5_init 9 = .ok (.putfield 11, 3) := by decide +kernel
theorem di_5_12 : decode cX5_init 12 = .ok (.aload_n 0, 1) := by decide +kernel
theorem di_5_13 : decode cX5_init 13 = .ok (.bipush 36, 2) := by decide +kernel
theorem di_5_15 : decode cX5_init 15 = .ok (.newarray .long, 2) := by decide +kernel
theorem di_5_17 : decode cX5_init 17 = .ok (.putfield 15, 3) := by decide +kernel
theorem di_5_20 : decode cX5_init 20 = .ok (.aload_n 0, 1) := by decide +kernel
theorem di_5_21 : decode cX5_init 21 = .ok (.bipush 36, 2) := by decide +kernel
theorem di_5_23 : decode cX5_init 23 = .ok (.newarray .long, 2) := by decide +kernel
theorem di_5_25 : decode cX5_init 25 = .ok (.putfield 18, 3) := by decide +kernel
theorem di_5_28 : decode cX5_init 28 = .ok (.aload_n 0, 1) := by decide +kernel
theorem di_5_29 : decode cX5_init 29 = .ok (.bipush 6, 2) := by decide +kernel
theorem di_5_31 : decode cX5_init 31 = .ok (.newarray .int, 2) := by decide +kernel
theorem di_5_33 : decode cX5_init 33 = .ok (.putfield 21, 3) := by decide +kernel
theorem di_5_36 : decode cX5_init 36 = .ok (.aload_n 0, 1) := by decide +kernel
theorem di_5_37 : decode cX5_init 37 = .ok (.bipush 6, 2) := by decide +kernel
theorem di_5_39 : decode cX5_init 39 = .ok (.newarray .int, 2) := by decide +kernel
theorem di_5_41 : decode cX5_init 41 = .ok (.putfield 25, 3) := by decide +kernel
theorem di_5_44 : decode cX5_init 44 = .ok (.aload_n 0, 1) := by decide +kernel
theorem di_5_45 : decode cX5_init 45 = .ok (.bipush 6, 2) := by decide +kernel
theorem di_5_47 : decode cX5_init 47 = .ok (.newarray .int, 2) := by decide +kernel
theorem di_5_49 : decode cX5_init 49 = .ok (.putfield 28, 3) := by decide +kernel
theorem di_5_52 : decode cX5_init 52 = .ok (.return_, 1) := by decide +kernel
theorem di_6_0 : decode cX6_init 0 = .ok (.aload_n 0, 1) := by decide +kernel
theorem di_6_1 : decode cX6_init 1 = .ok (.invokespecial 3, 3) := by decide +kernel
theorem di_6_4 : decode cX6_init 4 = .ok (.aload_n 0, 1) := by decide +kernel
theorem di_6_5 : decode cX6_init 5 = .ok (.iconst 4, 1) := by decide +kernel
theorem di_6_6 : decode cX6_init 6 = .ok (.anewarray 11, 3) := by decide +kernel
theorem di_6_9 : decode cX6_init 9 = .ok (.putfield 13, 3) := by decide +kernel
theorem di_6_12 : decode cX6_init 12 = .ok (.iconst 0, 1) := by decide +kernel
theorem di_6_13 : decode cX6_init 13 = .ok (.istore_n 1, 1) := by decide +kernel
theorem di_6_14 : decode cX6_init 14 = .ok (.iload_n 1, 1) := by decide +kernel
theorem di_6_15 : decode cX6_init 15 = .ok (.iconst 4, 1) := by decide +kernel
theorem di_6_16 : decode cX6_init 16 = .ok (.if_icmp .ge 22, 3) := by decide +kernel
theorem di_6_19 : decode cX6_init 19 = .ok (.aload_n 0, 1) := by decide +kernel
theorem di_6_20 : decode cX6_init 20 = .ok (.getfield 13, 3) := by decide +kernel
theorem di_6_23 : decode cX6_init 23 = .ok (.iload_n 1, 1) := by decide +kernel
theorem di_6_24 : decode cX6_init 24 = .ok (.new 11, 3) := by decide +kernel
theorem di_6_27 : decode cX6_init 27 = .ok (.dup, 1) := by decide +kernel
theorem di_6_28 : decode cX6_init 28 = .ok (.invokespecial 17, 3) := by decide +kernel
theorem di_6_31 : decode cX6_init 31 = .ok (.aastore, 1) := by decide +kernel
theorem di_6_32 : decode cX6_init 32 = .ok (.iinc 1 1, 3) := by decide +kernel
theorem di_6_35 : decode cX6_init 35 = .ok (.goto (-21), 3) := by decide +kernel
theorem di_6_38 : decode cX6_init 38 = .ok (.aload_n 0, 1) := by decide +kernel
theorem di_6_39 : decode cX6_init 39 = .ok (.new 18, 3) := by decide +kernel
theorem di_6_42 : decode cX6_init 42 = .ok (.dup, 1) := by decide +kernel
theorem di_6_43 : decode cX6_init 43 = .ok (.invokespecial 20, 3) := by decide +kernel
theorem di_6_46 : decode cX6_init 46 = .ok (.putfield 21, 3) := by decide +kernel
theorem di_6_49 : decode cX6_init 49 = .ok (.aload_n 0, 1) := by decide +kernel
theorem di_6_50 : decode cX6_init 50 = .ok (.new 25, 3) := by decide +kernel
theorem di_6_53 : decode cX6_init 53 = .ok (.dup, 1) := by decide +kernel
theorem di_6_54 : decode cX6_init 54 = .ok (.invokespecial 27, 3) := by decide +kernel
theorem di_6_57 : decode cX6_init 57 = .ok (.putfield 28, 3) := by decide +kernel
theorem di_6_60 : decode cX6_init 60 = .ok (.aload_n 0, 1) := by decide +kernel
theorem di_6_61 : decode cX6_init 61 = .ok (.new 32, 3) := by decide +kernel
theorem di_6_64 : decode cX6_init 64 = .ok (.dup, 1) := by decide +kernel
theorem di_6_65 : decode cX6_init 65 = .ok (.bipush 8, 2) := by decide +kernel
theorem di_6_67 : decode cX6_init 67 = .ok (.invokespecial 34, 3) := by decide +kernel
theorem di_6_70 : decode cX6_init 70 = .ok (.putfield 37, 3) := by decide +kernel
theorem di_6_73 : decode cX6_init 73 = .ok (.aload_n 0, 1) := by decide +kernel
theorem di_6_74 : decode cX6_init 74 = .ok (.new 32, 3) := by decide +kernel
theorem di_6_77 : decode cX6_init 77 = .ok (.dup, 1) := by decide +kernel
theorem di_6_78 : decode cX6_init 78 = .ok (.bipush 6, 2) := by decide +kernel
theorem di_6_80 : decode cX6_init 80 = .ok (.invokespecial 34, 3) := by decide +kernel
theorem di_6_83 : decode cX6_init 83 = .ok (.putfield 41, 3) := by decide +kernel
theorem di_6_86 : decode cX6_init 86 = .ok (.aload_n 0, 1) := by decide +kernel
theorem di_6_87 : decode cX6_init 87 = .ok (.new 32, 3) := by decide +kernel
theorem di_6_90 : decode cX6_init 90 = .ok (.dup, 1) := by decide +kernel
theorem di_6_91 : decode cX6_init 91 = .ok (.bipush 6, 2) := by decide +kernel
theorem di_6_93 : decode cX6_init 93 = .ok (.invokespecial 34, 3) := by decide +kernel
theorem di_6_96 : decode cX6_init 96 = .ok (.putfield 44, 3) := by decide +kernel
theorem di_6_99 : decode cX6_init 99 = .ok (.aload_n 0, 1) := by decide +kernel
theorem di_6_100 : decode cX6_init 100 = .ok (.new 47, 3) := by decide +kernel
theorem di_6_103 : decode cX6_init 103 = .ok (.dup, 1) := by decide +kernel
theorem di_6_104 : decode cX6_init 104 = .ok (.invokespecial 49, 3) := by decide +kernel
theorem di_6_107 : decode cX6_init 107 = .ok (.putfield 50, 3) := by decide +kernel
theorem di_6_110 : decode cX6_init 110 = .ok (.aload_n 0, 1) := by decide +kernel
theorem di_6_111 : decode cX6_init 111 = .ok (.new 54, 3) := by decide +kernel
theorem di_6_114 : decode cX6_init 114 = .ok (.dup, 1) := by decide +kernel
theorem di_6_115 : decode cX6_init 115 = .ok (.invokespecial 56, 3) := by decide +kernel
theorem di_6_118 : decode cX6_init 118 = .ok (.putfield 57, 3) := by decide +kernel
theorem di_6_121 : decode cX6_init 121 = .ok (.aload_n 0, 1) := by decide +kernel
theorem di_6_122 : decode cX6_init 122 = .ok (.bipush 6, 2) := by decide +kernel
theorem di_6_124 : decode cX6_init 124 = .ok (.newarray .int, 2) := by decide +kernel
theorem di_6_126 : decode cX6_init 126 = .ok (.putfield 61, 3) := by decide +kernel
theorem di_6_129 : decode cX6_init 129 = .ok (.aload_n 0, 1) := by decide +kernel
theorem di_6_130 : decode cX6_init 130 = .ok (.iconst 0, 1) := by decide +kernel
theorem di_6_131 : decode cX6_init 131 = .ok (.putfield 65, 3) := by decide +kernel
theorem di_6_134 : decode cX6_init 134 = .ok (.aload_n 0, 1) := by decide +kernel
theorem di_6_135 : decode cX6_init 135 = .ok (.iconst 0, 1) := by decide +kernel
theorem di_6_136 : decode cX6_init 136 = .ok (.putfield 69, 3) := by decide +kernel
theorem di_6_139 : decode cX6_init 139 = .ok (.return_, 1) := by decide +kernel
theorem di_7_0 : decode cX7_init 0 = .ok (.aload_n 0, 1) := by decide +kernel
theorem di_7_1 : decode cX7_init 1 = .ok (.invokespecial 1, 3) := by decide +kernel
theorem di_7_4 : decode cX7_init 4 = .ok (.aload_n 0, 1) := by decide +kernel
theorem di_7_5 : decode cX7_init 5 = .ok (.iconst 4, 1) := by decide +kernel
theorem di_7_6 : decode cX7_init 6 = .ok (.newarray .int, 2) := by decide +kernel
theorem di_7_8 : decode cX7_init 8 = .ok (.dup, 1) := by decide +kernel
theorem di_7_9 : decode cX7_init 9 = .ok (.iconst 0, 1) := by decide +kernel
theorem di_7_10 : decode cX7_init 10 = .ok (.bipush (-9), 2) := by decide +kernel
theorem di_7_12 : decode cX7_init 12 = .ok (.iastore, 1) := by decide +kernel
theorem di_7_13 : decode cX7_init 13 = .ok (.dup, 1) := by decide +kernel
theorem di_7_14 : decode cX7_init 14 = .ok (.iconst 1, 1) := by decide +kernel
theorem di_7_15 : decode cX7_init 15 = .ok (.bipush (-9), 2) := by decide +kernel
theorem di_7_17 : decode cX7_init 17 = .ok (.iastore, 1) := by decide +kernel
theorem di_7_18 : decode cX7_init 18 = .ok (.dup, 1) := by decide +kernel
theorem di_7_19 : decode cX7_init 19 = .ok (.iconst 2, 1) := by decide +kernel
theorem di_7_20 : decode cX7_init 20 = .ok (.bipush (-9), 2) := by decide +kernel
theorem di_7_22 : decode cX7_init 22 = .ok (.iastore, 1) := by decide +kernel
theorem di_7_23 : decode cX7_init 23 = .ok (.dup, 1) := by decide +kernel
theorem di_7_24 : decode cX7_init 24 = .ok (.iconst 3, 1) := by decide +kernel
theorem di_7_25 : decode cX7_init 25 = .ok (.bipush (-9), 2) := by decide +kernel
theorem di_7_27 : decode cX7_init 27 = .ok (.iastore, 1) := by decide +kernel
theorem di_7_28 : decode cX7_init 28 = .ok (.putfield 9, 3) := by decide +kernel
theorem di_7_31 : decode cX7_init 31 = .ok (.aload_n 0, 1) := by decide +kernel
theorem di_7_32 : decode cX7_init 32 = .ok (.iconst 4, 1) := by decide +kernel
theorem di_7_33 : decode cX7_init 33 = .ok (.newarray .int, 2) := by decide +kernel
theorem di_7_35 : decode cX7_init 35 = .ok (.putfield 13, 3) := by decide +kernel
theorem di_7_38 : decode cX7_init 38 = .ok (.aload_n 0, 1) := by decide +kernel
theorem di_7_39 : decode cX7_init 39 = .ok (.sipush 240, 3) := by decide +kernel
theorem di_7_42 : decode cX7_init 42 = .ok (.newarray .int, 2) := by decide +kernel
theorem di_7_44 : decode cX7_init 44 = .ok (.putfield 16, 3) := by decide +kernel
theorem di_7_47 : decode cX7_init 47 = .ok (.aload_n 0, 1) := by decide +kernel
theorem di_7_48 : decode cX7_init 48 = .ok (.bipush 42, 2) := by decide +kernel
theorem di_7_50 : decode cX7_init 50 = .ok (.newarray .boolean, 2) := by decide +kernel
theorem di_7_52 : decode cX7_init 52 = .ok (.putfield 19, 3) := by decide +kernel
theorem di_7_55 : decode cX7_init 55 = .ok (.aload_n 0, 1) := by decide +kernel
theorem di_7_56 : decode cX7_init 56 = .ok (.sipush 1764, 3) := by decide +kernel
theorem di_7_59 : decode cX7_init 59 = .ok (.newarray .int, 2) := by decide +kernel
theorem di_7_61 : decode cX7_init 61 = .ok (.putfield 23, 3) := by decide +kernel
theorem di_7_64 : decode cX7_init 64 = .ok (.aload_n 0, 1) := by decide +kernel
theorem di_7_65 : decode cX7_init 65 = .ok (.bipush 42, 2) := by decide +kernel
theorem di_7_67 : decode cX7_init 67 = .ok (.newarray .boolean, 2) := by decide +kernel
theorem di_7_69 : decode cX7_init 69 = .ok (.putfield 26, 3) := by decide +kernel
theorem di_7_72 : decode cX7_init 72 = .ok (.aload_n 0, 1) := by decide +kernel
theorem di_7_73 : decode cX7_init 73 = .ok (.bipush 8, 2) := by decide +kernel
theorem di_7_75 : decode cX7_init 75 = .ok (.newarray .int, 2) := by decide +kernel
theorem di_7_77 : decode cX7_init 77 = .ok (.putfield 29, 3) := by decide +kernel
theorem di_7_80 : decode cX7_init 80 = .ok (.aload_n 0, 1) := by decide +kernel
theorem di_7_81 : decode cX7_init 81 = .ok (.bipush 8, 2) := by decide +kernel
theorem di_7_83 : decode cX7_init 83 = .ok (.newarray .int, 2) := by decide +kernel
theorem di_7_85 : decode cX7_init 85 = .ok (.putfield 32, 3) := by decide +kernel
theorem di_7_88 : decode cX7_init 88 = .ok (.aload_n 0, 1) := by decide +kernel
theorem di_7_89 : decode cX7_init 89 = .ok (.bipush 8, 2) := by decide +kernel
theorem di_7_91 : decode cX7_init 91 = .ok (.newarray .int, 2) := by decide +kernel
theorem di_7_93 : decode cX7_init 93 = .ok (.putfield 35, 3) := by decide +kernel
theorem di_7_96 : decode cX7_init 96 = .ok (.aload_n 0, 1) := by decide +kernel
theorem di_7_97 : decode cX7_init 97 = .ok (.bipush 6, 2) := by decide +kernel
theorem di_7_99 : decode cX7_init 99 = .ok (.newarray .int, 2) := by decide +kernel
theorem di_7_101 : decode cX7_init 101 = .ok (.putfield 38, 3) := by decide +kernel
theorem di_7_104 : decode cX7_init 104 = .ok (.aload_n 0, 1) := by decide +kernel
theorem di_7_105 : decode cX7_init 105 = .ok (.bipush 6, 2) := by decide +kernel
theorem di_7_107 : decode cX7_init 107 = .ok (.newarray .int, 2) := by decide +kernel
theorem di_7_109 : decode cX7_init 109 = .ok (.putfield 41, 3) := by decide +kernel
theorem di_7_112 : decode cX7_init 112 = .ok (.aload_n 0, 1) := by decide +kernel
theorem di_7_113 : decode cX7_init 113 = .ok (.sipush 3636, 3) := by decide +kernel
theorem di_7_116 : decode cX7_init 116 = .ok (.newarray .boolean, 2) := by decide +kernel
theorem di_7_118 : decode cX7_init 118 = .ok (.putfield 44, 3) := by decide +kernel
theorem di_7_121 : decode cX7_init 121 = .ok (.aload_n 0, 1) := by decide +kernel
theorem di_7_122 : decode cX7_init 122 = .ok (.bipush 6, 2) := by decide +kernel
theorem di_7_124 : decode cX7_init 124 = .ok (.newarray .int, 2) := by decide +kernel
theorem di_7_126 : decode cX7_init 126 = .ok (.putfield 47, 3) := by decide +kernel
theorem di_7_129 : decode cX7_init 129 = .ok (.aload_n 0, 1) := by decide +kernel
theorem di_7_130 : decode cX7_init 130 = .ok (.bipush 6, 2) := by decide +kernel
theorem di_7_132 : decode cX7_init 132 = .ok (.newarray .int, 2) := by decide +kernel
theorem di_7_134 : decode cX7_init 134 = .ok (.putfield 50, 3) := by decide +kernel
theorem di_7_137 : decode cX7_init 137 = .ok (.aload_n 0, 1) := by decide +kernel
theorem di_7_138 : decode cX7_init 138 = .ok (.bipush 6, 2) := by decide +kernel
theorem di_7_140 : decode cX7_init 140 = .ok (.newarray .int, 2) := by decide +kernel
theorem di_7_142 : decode cX7_init 142 = .ok (.putfield 53, 3) := by decide +kernel
theorem di_7_145 : decode cX7_init 145 = .ok (.return_, 1) := by decide +kernel
theorem wg {y : MethodName} {b : ByteArray} {n : Nat} {r : Option FieldType} (h : Cond.code y b n r ∈ mm_TB) : GoodIn mm_TB (Cond.code y b n r :: mm_TB) := by
  intro q hq
  rcases List.mem_cons.mp hq with rfl | hq
  · exact mm_good h
  · exact mm_good hq
theorem wo_4 : Cond.methodLink RX4 1 objectInit ∈ mm_TB := (mm_t1 (w := .methodLink RX4 1 objectInit) 28 (by decide +kernel) (by decide +kernel))
theorem wf_4_9 : Cond.fieldLink RX4 9 "PondRings$Sheet" "numbers" "[I" ∈ mm_TB := (mm_t1 (w := .fieldLink RX4 9 "PondRings$Sheet" "numbers" "[I") 29 (by decide +kernel) (by decide +kernel))
set_option maxHeartbeats 4000000 in
set_option maxRecDepth 100000 in
theorem c_X4 (l : Launch) (D : va_G) (h0 sz : Nat) : Met l yX4_init (Cond.code yX4_init cX4_init 1 none :: mm_TB) ({ frames := 2, cells := 1, slots := 60, locals := 64 }) (va_Pc [.ref h0] (fun U => U.heap.size = sz ∧ va_P D mm_K [(h0, .inr (4, [.null, .int 0, .int 0, .int 0]))] U.heap ∧ va_K D mm_K [] U ∧ va_D (fun _ => True) [(h0, .inr (4, [.null, .int 0, .int 0, .int 0]))])) (va_Qv (fun _ : Unit => True) (fun (_ : Unit) (t : State) => ∃ (q1 : Nat) (cA2 : ClassId), va_P D mm_K [(h0, .inr (4, [.ref q1, .int 0, .int 0, .int 0])), (q1, .inl (cA2, 60, .inl (fun _ => 0)))] t.heap ∧ va_K D mm_K [(cA2, .int)] t ∧ va_D (va_A [(h0, .inr (4, [.null, .int 0, .int 0, .int 0]))] sz) [(h0, .inr (4, [.ref q1, .int 0, .int 0, .int 0])), (q1, .inl (cA2, 60, .inl (fun _ => 0)))]) (va_A [(h0, .inr (4, [.null, .int 0, .int 0, .int 0]))] sz)) 1 60 (va_A [(h0, .inr (4, [.null, .int 0, .int 0, .int 0]))] sz) := by
  refine Met.ofW (cc := cX4_init) (maxL := 1) (ret := none) (by decide) rfl ?_
  intro p e s m args below meth c s₁ B hml hv
  obtain ⟨rfl, hsz, hP, hK, hD0⟩ := hv
  have hx := B.exec
  have hb := B.bytes
  have hr := B.returns
  have hts := atoms_spec (ws := Cond.code yX4_init cX4_init 1 none :: mm_TB) B.pre
  have htb : ∀ w ∈ mm_TB, w.before [.ref h0].toArray s = true := fun w hw => hts w (List.mem_cons_of_mem _ hw)
  have hown : s.vm.findClass RX4 = some m.cls := findClass_of_methodNamed B.named
  have hlocks := B.notSynchronized
  have hin : meth.name = "<init>" := (name_of_methodNamed B.named B.method).1
  subst hsz
  have hD := hD0.self (sz := s.heap.size)
  generalize hAe : va_A [(h0, .inr (4, [.null, .int 0, .int 0, .int 0]))] s.heap.size = A at hD ⊢
  have hA : ∀ q : Nat, s.heap.size ≤ q → A q := fun q h => by rw [← hAe]; exact Or.inr h
  have hS : va_S A s.heap s.heap [] := va_S.rf
  have hl := lv_entry ([.ref h0]) (n := 1) (Nat.le_of_ble_eq_true rfl)
  rw [lg_entry_eq]
  generalize (lg_sl ([.ref h0]) ++ List.replicate (1 - (lg_sl ([.ref h0])).length) Slot.unset).toArray = ls at hl ⊢
  have hl : lv_has ls 1 [(0, .ref h0)] := hl
  refine lv_aload_n hx hb di_4_0 rfl (lv_at hl 0 rfl) ?_
  refine W.objInit hx hb hown (htb _ wo_4) (htb _ wo_inst) (htb _ wo_code) rfl (by rw [hml]; exact hl.1) rfl di_4_1 (Nat.le_of_ble_eq_true rfl) (Nat.le_of_ble_eq_true rfl) ?_
  refine W.eq (g2 := F0 m 4 ls []) rfl ?_
  refine lv_aload_n hx hb di_4_4 rfl (lv_at hl 0 rfl) ?_
  refine lv_bipush (v := 60) hx hb di_4_5 (by decide) ?_
  refine va_newa (atype := .int) (ty := .int) (a0 := (60, .inl (fun _ => 0))) hx hb (htb _ wa_int) rfl hK hP hD hS hA (fun _ => rfl) (by decide) rfl (by decide) (Nat.le_of_ble_eq_true rfl) (Nat.le_of_ble_eq_true rfl) di_4_7 (fun q1 cA2 H hK hP hD hS => ?_)
  have hP : va_P D mm_K [(h0, .inr (4, [.null, .int 0, .int 0, .int 0])), (q1, .inl (cA2, 60, .inl (fun _ => 0)))] H := hP
  have hD : va_D A [(h0, .inr (4, [.null, .int 0, .int 0, .int 0])), (q1, .inl (cA2, 60, .inl (fun _ => 0)))] := hD
  have hK : va_K D mm_K [(cA2, .int)] s := hK
  refine va_putF (D := D) (ci := 4) (v := .ref q1) (ty := .array .int) (C := RX4) (T := TX4) (N := 4) hx hb htb mu_4 tyX4 tyX4_ok nmX4 hown hK hP hD hS 0 rfl rfl 0 (by decide) (htb _ wf_4_9) (fun _ h9 => h9) rfl hin rfl (by decide +kernel) rfl rfl (Nat.le_of_ble_eq_true rfl) di_4_9 (fun H locs hP hD hS => ?_)
  have hP : va_P D mm_K [(h0, .inr (4, [.ref q1, .int 0, .int 0, .int 0])), (q1, .inl (cA2, 60, .inl (fun _ => 0)))] H := hP
  have hD : va_D A [(h0, .inr (4, [.ref q1, .int 0, .int 0, .int 0])), (q1, .inl (cA2, 60, .inl (fun _ => 0)))] := hD
  refine W.widen (k := 1) (n := 60) (Nat.le_of_ble_eq_true rfl) (Nat.le_of_ble_eq_true rfl) ?_
  exact W.vret hx hb hr (fun t ht hW => ⟨⟨(), rfl, trivial, q1, cA2, by rw [ht]; exact hP, va_K.moved hW.alike hK, hD⟩, hS.F ht⟩) hS.2.2 di_4_12
theorem wo_3 : Cond.methodLink RX3 1 objectInit ∈ mm_TB := (mm_t1 (w := .methodLink RX3 1 objectInit) 52 (by decide +kernel) (by decide +kernel))
set_option maxHeartbeats 4000000 in
set_option maxRecDepth 100000 in
theorem c_X3 (l : Launch) (D : va_G) (h0 sz : Nat) : Met l yX3_init (Cond.code yX3_init cX3_init 1 none :: mm_TB) ({ frames := 2, cells := 0, slots := 0, locals := 64 }) (va_Pc [.ref h0] (fun U => U.heap.size = sz ∧ va_P D mm_K [(h0, .inr (3, [.int 0, .int 0, .long 0]))] U.heap ∧ va_K D mm_K [] U ∧ va_D (fun _ => True) [(h0, .inr (3, [.int 0, .int 0, .long 0]))])) (va_Qv (fun _ : Unit => True) (fun (_ : Unit) (t : State) => va_P D mm_K [(h0, .inr (3, [.int 0, .int 0, .long 0]))] t.heap ∧ va_K D mm_K [] t ∧ va_D (va_A [(h0, .inr (3, [.int 0, .int 0, .long 0]))] sz) [(h0, .inr (3, [.int 0, .int 0, .long 0]))]) (va_A [(h0, .inr (3, [.int 0, .int 0, .long 0]))] sz)) 0 0 (va_A [(h0, .inr (3, [.int 0, .int 0, .long 0]))] sz) := by
  refine Met.ofW (cc := cX3_init) (maxL := 1) (ret := none) (by decide) rfl ?_
  intro p e s m args below meth c s₁ B hml hv
  obtain ⟨rfl, hsz, hP, hK, hD0⟩ := hv
  have hx := B.exec
  have hb := B.bytes
  have hr := B.returns
  have hts := atoms_spec (ws := Cond.code yX3_init cX3_init 1 none :: mm_TB) B.pre
  have htb : ∀ w ∈ mm_TB, w.before [.ref h0].toArray s = true := fun w hw => hts w (List.mem_cons_of_mem _ hw)
  have hown : s.vm.findClass RX3 = some m.cls := findClass_of_methodNamed B.named
  have hlocks := B.notSynchronized
  have hin : meth.name = "<init>" := (name_of_methodNamed B.named B.method).1
  subst hsz
  have hD := hD0.self (sz := s.heap.size)
  generalize hAe : va_A [(h0, .inr (3, [.int 0, .int 0, .long 0]))] s.heap.size = A at hD ⊢
  have hA : ∀ q : Nat, s.heap.size ≤ q → A q := fun q h => by rw [← hAe]; exact Or.inr h
  have hS : va_S A s.heap s.heap [] := va_S.rf
  have hl := lv_entry ([.ref h0]) (n := 1) (Nat.le_of_ble_eq_true rfl)
  rw [lg_entry_eq]
  generalize (lg_sl ([.ref h0]) ++ List.replicate (1 - (lg_sl ([.ref h0])).length) Slot.unset).toArray = ls at hl ⊢
  have hl : lv_has ls 1 [(0, .ref h0)] := hl
  refine lv_aload_n hx hb di_3_0 rfl (lv_at hl 0 rfl) ?_
  refine W.objInit hx hb hown (htb _ wo_3) (htb _ wo_inst) (htb _ wo_code) rfl (by rw [hml]; exact hl.1) rfl di_3_1 (Nat.le_of_ble_eq_true rfl) (Nat.le_of_ble_eq_true rfl) ?_
  refine W.eq (g2 := F0 m 4 ls []) rfl ?_
  refine W.widen (k := 0) (n := 0) (Nat.le_of_ble_eq_true rfl) (Nat.le_of_ble_eq_true rfl) ?_
  exact W.vret hx hb hr (fun t ht hW => ⟨⟨(), rfl, trivial, by rw [ht]; exact hP, va_K.moved hW.alike hK, hD⟩, hS.F ht⟩) hS.2.2 di_3_4
theorem wo_2 : Cond.methodLink RX2 3 objectInit ∈ mm_TB := (mm_t1 (w := .methodLink RX2 3 objectInit) 71 (by decide +kernel) (by decide +kernel))
theorem wf_2_11 : Cond.fieldLink RX2 11 "PondRings$Pond" "ripples" "[J" ∈ mm_TB := (mm_t1 (w := .fieldLink RX2 11 "PondRings$Pond" "ripples" "[J") 72 (by decide +kernel) (by decide +kernel))
theorem wf_2_15 : Cond.fieldLink RX2 15 "PondRings$Pond" "depths" "[I" ∈ mm_TB := (mm_t1 (w := .fieldLink RX2 15 "PondRings$Pond" "depths" "[I") 73 (by decide +kernel) (by decide +kernel))
set_option maxHeartbeats 4000000 in
set_option maxRecDepth 100000 in
theorem c_X2 (l : Launch) (D : va_G) (h0 sz : Nat) : Met l yX2_init (Cond.code yX2_init cX2_init 1 none :: mm_TB) ({ frames := 2, cells := 2, slots := 1806, locals := 64 }) (va_Pc [.ref h0] (fun U => U.heap.size = sz ∧ va_P D mm_K [(h0, .inr (2, [.null, .null, .long 0, .long 0, .long 0, .int 0, .int 0, .long 0]))] U.heap ∧ va_K D mm_K [] U ∧ va_D (fun _ => True) [(h0, .inr (2, [.null, .null, .long 0, .long 0, .long 0, .int 0, .int 0, .long 0]))])) (va_Qv (fun _ : Unit => True) (fun (_ : Unit) (t : State) => ∃ (q1 : Nat) (q3 : Nat) (cA2 : ClassId) (cA4 : ClassId), va_P D mm_K [(h0, .inr (2, [.ref q1, .ref q3, .long 0, .long 0, .long 0, .int 0, .int 0, .long 0])), (q1, .inl (cA2, 1764, .inr (.inl (fun _ => 0)))), (q3, .inl (cA4, 42, .inl (fun _ => 0)))] t.heap ∧ va_K D mm_K [(cA2, .long), (cA4, .int)] t ∧ va_D (va_A [(h0, .inr (2, [.null, .null, .long 0, .long 0, .long 0, .int 0, .int 0, .long 0]))] sz) [(h0, .inr (2, [.ref q1, .ref q3, .long 0, .long 0, .long 0, .int 0, .int 0, .long 0])), (q1, .inl (cA2, 1764, .inr (.inl (fun _ => 0)))), (q3, .inl (cA4, 42, .inl (fun _ => 0)))]) (va_A [(h0, .inr (2, [.null, .null, .long 0, .long 0, .long 0, .int 0, .int 0, .long 0]))] sz)) 2 1806 (va_A [(h0, .inr (2, [.null, .null, .long 0, .long 0, .long 0, .int 0, .int 0, .long 0]))] sz) := by
  refine Met.ofW (cc := cX2_init) (maxL := 1) (ret := none) (by decide) rfl ?_
  intro p e s m args below meth c s₁ B hml hv
  obtain ⟨rfl, hsz, hP, hK, hD0⟩ := hv
  have hx := B.exec
  have hb := B.bytes
  have hr := B.returns
  have hts := atoms_spec (ws := Cond.code yX2_init cX2_init 1 none :: mm_TB) B.pre
  have htb : ∀ w ∈ mm_TB, w.before [.ref h0].toArray s = true := fun w hw => hts w (List.mem_cons_of_mem _ hw)
  have hown : s.vm.findClass RX2 = some m.cls := findClass_of_methodNamed B.named
  have hlocks := B.notSynchronized
  have hin : meth.name = "<init>" := (name_of_methodNamed B.named B.method).1
  subst hsz
  have hD := hD0.self (sz := s.heap.size)
  generalize hAe : va_A [(h0, .inr (2, [.null, .null, .long 0, .long 0, .long 0, .int 0, .int 0, .long 0]))] s.heap.size = A at hD ⊢
  have hA : ∀ q : Nat, s.heap.size ≤ q → A q := fun q h => by rw [← hAe]; exact Or.inr h
  have hS : va_S A s.heap s.heap [] := va_S.rf
  have hl := lv_entry ([.ref h0]) (n := 1) (Nat.le_of_ble_eq_true rfl)
  rw [lg_entry_eq]
  generalize (lg_sl ([.ref h0]) ++ List.replicate (1 - (lg_sl ([.ref h0])).length) Slot.unset).toArray = ls at hl ⊢
  have hl : lv_has ls 1 [(0, .ref h0)] := hl
  refine lv_aload_n hx hb di_2_0 rfl (lv_at hl 0 rfl) ?_
  refine W.objInit hx hb hown (htb _ wo_2) (htb _ wo_inst) (htb _ wo_code) rfl (by rw [hml]; exact hl.1) rfl di_2_1 (Nat.le_of_ble_eq_true rfl) (Nat.le_of_ble_eq_true rfl) ?_
  refine W.eq (g2 := F0 m 4 ls []) rfl ?_
  refine lv_aload_n hx hb di_2_4 rfl (lv_at hl 0 rfl) ?_
  refine lv_sipush (v := 1764) hx hb di_2_5 (by decide) ?_
  refine va_newa (atype := .long) (ty := .long) (a0 := (1764, .inr (.inl (fun _ => 0)))) hx hb (htb _ wa_long) rfl hK hP hD hS hA (fun _ => rfl) (by decide) rfl (by decide) (Nat.le_of_ble_eq_true rfl) (Nat.le_of_ble_eq_true rfl) di_2_8 (fun q1 cA2 H hK hP hD hS => ?_)
  have hP : va_P D mm_K [(h0, .inr (2, [.null, .null, .long 0, .long 0, .long 0, .int 0, .int 0, .long 0])), (q1, .inl (cA2, 1764, .inr (.inl (fun _ => 0))))] H := hP
  have hD : va_D A [(h0, .inr (2, [.null, .null, .long 0, .long 0, .long 0, .int 0, .int 0, .long 0])), (q1, .inl (cA2, 1764, .inr (.inl (fun _ => 0))))] := hD
  have hK : va_K D mm_K [(cA2, .long)] s := hK
  refine va_putF (D := D) (ci := 2) (v := .ref q1) (ty := .array .long) (C := RX2) (T := TX2) (N := 8) hx hb htb mu_2 tyX2 tyX2_ok nmX2 hown hK hP hD hS 0 rfl rfl 0 (by decide) (htb _ wf_2_11) (fun _ h9 => h9) rfl hin rfl (by decide +kernel) rfl rfl (Nat.le_of_ble_eq_true rfl) di_2_10 (fun H locs hP hD hS => ?_)
  have hP : va_P D mm_K [(h0, .inr (2, [.ref q1, .null, .long 0, .long 0, .long 0, .int 0, .int 0, .long 0])), (q1, .inl (cA2, 1764, .inr (.inl (fun _ => 0))))] H := hP
  have hD : va_D A [(h0, .inr (2, [.ref q1, .null, .long 0, .long 0, .long 0, .int 0, .int 0, .long 0])), (q1, .inl (cA2, 1764, .inr (.inl (fun _ => 0))))] := hD
  refine lv_aload_n hx hb di_2_13 rfl (lv_at hl 0 rfl) ?_
  refine lv_bipush (v := 42) hx hb di_2_14 (by decide) ?_
  refine va_newa (atype := .int) (ty := .int) (a0 := (42, .inl (fun _ => 0))) hx hb (htb _ wa_int) rfl hK hP hD hS hA (fun _ => rfl) (by decide) rfl (by decide) (Nat.le_of_ble_eq_true rfl) (Nat.le_of_ble_eq_true rfl) di_2_16 (fun q3 cA4 H hK hP hD hS => ?_)
  have hP : va_P D mm_K [(h0, .inr (2, [.ref q1, .null, .long 0, .long 0, .long 0, .int 0, .int 0, .long 0])), (q1, .inl (cA2, 1764, .inr (.inl (fun _ => 0)))), (q3, .inl (cA4, 42, .inl (fun _ => 0)))] H := hP
  have hD : va_D A [(h0, .inr (2, [.ref q1, .null, .long 0, .long 0, .long 0, .int 0, .int 0, .long 0])), (q1, .inl (cA2, 1764, .inr (.inl (fun _ => 0)))), (q3, .inl (cA4, 42, .inl (fun _ => 0)))] := hD
  have hK : va_K D mm_K [(cA2, .long), (cA4, .int)] s := hK
  refine va_putF (D := D) (ci := 2) (v := .ref q3) (ty := .array .int) (C := RX2) (T := TX2) (N := 8) hx hb htb mu_2 tyX2 tyX2_ok nmX2 hown hK hP hD hS 0 rfl rfl 1 (by decide) (htb _ wf_2_15) (fun _ h9 => h9) rfl hin rfl (by decide +kernel) rfl rfl (Nat.le_of_ble_eq_true rfl) di_2_18 (fun H locs hP hD hS => ?_)
  have hP : va_P D mm_K [(h0, .inr (2, [.ref q1, .ref q3, .long 0, .long 0, .long 0, .int 0, .int 0, .long 0])), (q1, .inl (cA2, 1764, .inr (.inl (fun _ => 0)))), (q3, .inl (cA4, 42, .inl (fun _ => 0)))] H := hP
  have hD : va_D A [(h0, .inr (2, [.ref q1, .ref q3, .long 0, .long 0, .long 0, .int 0, .int 0, .long 0])), (q1, .inl (cA2, 1764, .inr (.inl (fun _ => 0)))), (q3, .inl (cA4, 42, .inl (fun _ => 0)))] := hD
  refine W.widen (k := 2) (n := 1806) (Nat.le_of_ble_eq_true rfl) (Nat.le_of_ble_eq_true rfl) ?_
  exact W.vret hx hb hr (fun t ht hW => ⟨⟨(), rfl, trivial, q1, q3, cA2, cA4, by rw [ht]; exact hP, va_K.moved hW.alike hK, hD⟩, hS.F ht⟩) hS.2.2 di_2_21
theorem wo_1 : Cond.methodLink RX1 1 objectInit ∈ mm_TB := (mm_t1 (w := .methodLink RX1 1 objectInit) 132 (by decide +kernel) (by decide +kernel))
set_option maxHeartbeats 4000000 in
set_option maxRecDepth 100000 in
theorem c_X1 (l : Launch) (D : va_G) (h0 sz : Nat) : Met l yX1_init (Cond.code yX1_init cX1_init 1 none :: mm_TB) ({ frames := 2, cells := 0, slots := 0, locals := 64 }) (va_Pc [.ref h0] (fun U => U.heap.size = sz ∧ va_P D mm_K [(h0, .inr (1, [.int 0, .int 0]))] U.heap ∧ va_K D mm_K [] U ∧ va_D (fun _ => True) [(h0, .inr (1, [.int 0, .int 0]))])) (va_Qv (fun _ : Unit => True) (fun (_ : Unit) (t : State) => va_P D mm_K [(h0, .inr (1, [.int 0, .int 0]))] t.heap ∧ va_K D mm_K [] t ∧ va_D (va_A [(h0, .inr (1, [.int 0, .int 0]))] sz) [(h0, .inr (1, [.int 0, .int 0]))]) (va_A [(h0, .inr (1, [.int 0, .int 0]))] sz)) 0 0 (va_A [(h0, .inr (1, [.int 0, .int 0]))] sz) := by
  refine Met.ofW (cc := cX1_init) (maxL := 1) (ret := none) (by decide) rfl ?_
  intro p e s m args below meth c s₁ B hml hv
  obtain ⟨rfl, hsz, hP, hK, hD0⟩ := hv
  have hx := B.exec
  have hb := B.bytes
  have hr := B.returns
  have hts := atoms_spec (ws := Cond.code yX1_init cX1_init 1 none :: mm_TB) B.pre
  have htb : ∀ w ∈ mm_TB, w.before [.ref h0].toArray s = true := fun w hw => hts w (List.mem_cons_of_mem _ hw)
  have hown : s.vm.findClass RX1 = some m.cls := findClass_of_methodNamed B.named
  have hlocks := B.notSynchronized
  have hin : meth.name = "<init>" := (name_of_methodNamed B.named B.method).1
  subst hsz
  have hD := hD0.self (sz := s.heap.size)
  generalize hAe : va_A [(h0, .inr (1, [.int 0, .int 0]))] s.heap.size = A at hD ⊢
  have hA : ∀ q : Nat, s.heap.size ≤ q → A q := fun q h => by rw [← hAe]; exact Or.inr h
  have hS : va_S A s.heap s.heap [] := va_S.rf
  have hl := lv_entry ([.ref h0]) (n := 1) (Nat.le_of_ble_eq_true rfl)
  rw [lg_entry_eq]
  generalize (lg_sl ([.ref h0]) ++ List.replicate (1 - (lg_sl ([.ref h0])).length) Slot.unset).toArray = ls at hl ⊢
  have hl : lv_has ls 1 [(0, .ref h0)] := hl
  refine lv_aload_n hx hb di_1_0 rfl (lv_at hl 0 rfl) ?_
  refine W.objInit hx hb hown (htb _ wo_1) (htb _ wo_inst) (htb _ wo_code) rfl (by rw [hml]; exact hl.1) rfl di_1_1 (Nat.le_of_ble_eq_true rfl) (Nat.le_of_ble_eq_true rfl) ?_
  refine W.eq (g2 := F0 m 4 ls []) rfl ?_
  refine W.widen (k := 0) (n := 0) (Nat.le_of_ble_eq_true rfl) (Nat.le_of_ble_eq_true rfl) ?_
  exact W.vret hx hb hr (fun t ht hW => ⟨⟨(), rfl, trivial, by rw [ht]; exact hP, va_K.moved hW.alike hK, hD⟩, hS.F ht⟩) hS.2.2 di_1_4
theorem wo_5 : Cond.methodLink RX5 3 objectInit ∈ mm_TB := (mm_t1 (w := .methodLink RX5 3 objectInit) 147 (by decide +kernel) (by decide +kernel))
theorem wf_5_11 : Cond.fieldLink RX5 11 "PondRings$Timetable" "after" "[J" ∈ mm_TB := (mm_t1 (w := .fieldLink RX5 11 "PondRings$Timetable" "after" "[J") 148 (by decide +kernel) (by decide +kernel))
theorem wf_5_15 : Cond.fieldLink RX5 15 "PondRings$Timetable" "before" "[J" ∈ mm_TB := (mm_t1 (w := .fieldLink RX5 15 "PondRings$Timetable" "before" "[J") 149 (by decide +kernel) (by decide +kernel))
theorem wf_5_18 : Cond.fieldLink RX5 18 "PondRings$Timetable" "left" "[J" ∈ mm_TB := (mm_t1 (w := .fieldLink RX5 18 "PondRings$Timetable" "left" "[J") 150 (by decide +kernel) (by decide +kernel))
theorem wf_5_21 : Cond.fieldLink RX5 21 "PondRings$Timetable" "weights" "[I" ∈ mm_TB := (mm_t1 (w := .fieldLink RX5 21 "PondRings$Timetable" "weights" "[I") 151 (by decide +kernel) (by decide +kernel))
theorem wf_5_25 : Cond.fieldLink RX5 25 "PondRings$Timetable" "minutes" "[I" ∈ mm_TB := (mm_t1 (w := .fieldLink RX5 25 "PondRings$Timetable" "minutes" "[I") 153 (by decide +kernel) (by decide +kernel))
theorem wf_5_28 : Cond.fieldLink RX5 28 "PondRings$Timetable" "plan" "[I" ∈ mm_TB := (mm_t1 (w := .fieldLink RX5 28 "PondRings$Timetable" "plan" "[I") 155 (by decide +kernel) (by decide +kernel))
set_option maxHeartbeats 4000000 in
set_option maxRecDepth 100000 in
theorem c_X5 (l : Launch) (D : va_G) (h0 sz : Nat) : Met l yX5_init (Cond.code yX5_init cX5_init 1 none :: mm_TB) ({ frames := 2, cells := 6, slots := 126, locals := 64 }) (va_Pc [.ref h0] (fun U => U.heap.size = sz ∧ va_P D mm_K [(h0, .inr (5, [.null, .null, .null, .null, .int 0, .null, .null, .int 0]))] U.heap ∧ va_K D mm_K [] U ∧ va_D (fun _ => True) [(h0, .inr (5, [.null, .null, .null, .null, .int 0, .null, .null, .int 0]))])) (va_Qv (fun _ : Unit => True) (fun (_ : Unit) (t : State) => ∃ (q1 : Nat) (q3 : Nat) (q5 : Nat) (q7 : Nat) (q9 : Nat) (q11 : Nat) (cA2 : ClassId) (cA4 : ClassId) (cA6 : ClassId) (cA8 : ClassId) (cA10 : ClassId) (cA12 : ClassId), va_P D mm_K [(h0, .inr (5, [.ref q1, .ref q3, .ref q5, .ref q7, .int 0, .ref q9, .ref q11, .int 0])), (q1, .inl (cA2, 36, .inr (.inl (fun _ => 0)))), (q3, .inl (cA4, 36, .inr (.inl (fun _ => 0)))), (q5, .inl (cA6, 36, .inr (.inl (fun _ => 0)))), (q7, .inl (cA8, 6, .inl (fun _ => 0))), (q9, .inl (cA10, 6, .inl (fun _ => 0))), (q11, .inl (cA12, 6, .inl (fun _ => 0)))] t.heap ∧ va_K D mm_K [(cA2, .long), (cA4, .long), (cA6, .long), (cA8, .int), (cA10, .int), (cA12, .int)] t ∧ va_D (va_A [(h0, .inr (5, [.null, .null, .null, .null, .int 0, .null, .null, .int 0]))] sz) [(h0, .inr (5, [.ref q1, .ref q3, .ref q5, .ref q7, .int 0, .ref q9, .ref q11, .int 0])), (q1, .inl (cA2, 36, .inr (.inl (fun _ => 0)))), (q3, .inl (cA4, 36, .inr (.inl (fun _ => 0)))), (q5, .inl (cA6, 36, .inr (.inl (fun _ => 0)))), (q7, .inl (cA8, 6, .inl (fun _ => 0))), (q9, .inl (cA10, 6, .inl (fun _ => 0))), (q11, .inl (cA12, 6, .inl (fun _ => 0)))]) (va_A [(h0, .inr (5, [.null, .null, .null, .null, .int 0, .null, .null, .int 0]))] sz)) 6 126 (va_A [(h0, .inr (5, [.null, .null, .null, .null, .int 0, .null, .null, .int 0]))] sz) := by
  refine Met.ofW (cc := cX5_init) (maxL := 1) (ret := none) (by decide) rfl ?_
  intro p e s m args below meth c s₁ B hml hv
  obtain ⟨rfl, hsz, hP, hK, hD0⟩ := hv
  have hx := B.exec
  have hb := B.bytes
  have hr := B.returns
  have hts := atoms_spec (ws := Cond.code yX5_init cX5_init 1 none :: mm_TB) B.pre
  have htb : ∀ w ∈ mm_TB, w.before [.ref h0].toArray s = true := fun w hw => hts w (List.mem_cons_of_mem _ hw)
  have hown : s.vm.findClass RX5 = some m.cls := findClass_of_methodNamed B.named
  have hlocks := B.notSynchronized
  have hin : meth.name = "<init>" := (name_of_methodNamed B.named B.method).1
  subst hsz
  have hD := hD0.self (sz := s.heap.size)
  generalize hAe : va_A [(h0, .inr (5, [.null, .null, .null, .null, .int 0, .null, .null, .int 0]))] s.heap.size = A at hD ⊢
  have hA : ∀ q : Nat, s.heap.size ≤ q → A q := fun q h => by rw [← hAe]; exact Or.inr h
  have hS : va_S A s.heap s.heap [] := va_S.rf
  have hl := lv_entry ([.ref h0]) (n := 1) (Nat.le_of_ble_eq_true rfl)
  rw [lg_entry_eq]
  generalize (lg_sl ([.ref h0]) ++ List.replicate (1 - (lg_sl ([.ref h0])).length) Slot.unset).toArray = ls at hl ⊢
  have hl : lv_has ls 1 [(0, .ref h0)] := hl
  refine lv_aload_n hx hb di_5_0 rfl (lv_at hl 0 rfl) ?_
  refine W.objInit hx hb hown (htb _ wo_5) (htb _ wo_inst) (htb _ wo_code) rfl (by rw [hml]; exact hl.1) rfl di_5_1 (Nat.le_of_ble_eq_true rfl) (Nat.le_of_ble_eq_true rfl) ?_
  refine W.eq (g2 := F0 m 4 ls []) rfl ?_
  refine lv_aload_n hx hb di_5_4 rfl (lv_at hl 0 rfl) ?_
  refine lv_bipush (v := 36) hx hb di_5_5 (by decide) ?_
  refine va_newa (atype := .long) (ty := .long) (a0 := (36, .inr (.inl (fun _ => 0)))) hx hb (htb _ wa_long) rfl hK hP hD hS hA (fun _ => rfl) (by decide) rfl (by decide) (Nat.le_of_ble_eq_true rfl) (Nat.le_of_ble_eq_true rfl) di_5_7 (fun q1 cA2 H hK hP hD hS => ?_)
  have hP : va_P D mm_K [(h0, .inr (5, [.null, .null, .null, .null, .int 0, .null, .null, .int 0])), (q1, .inl (cA2, 36, .inr (.inl (fun _ => 0))))] H := hP
  have hD : va_D A [(h0, .inr (5, [.null, .null, .null, .null, .int 0, .null, .null, .int 0])), (q1, .inl (cA2, 36, .inr (.inl (fun _ => 0))))] := hD
  have hK : va_K D mm_K [(cA2, .long)] s := hK
  refine va_putF (D := D) (ci := 5) (v := .ref q1) (ty := .array .long) (C := RX5) (T := TX5) (N := 8) hx hb htb mu_5 tyX5 tyX5_ok nmX5 hown hK hP hD hS 0 rfl rfl 0 (by decide) (htb _ wf_5_11) (fun _ h9 => h9) rfl hin rfl (by decide +kernel) rfl rfl (Nat.le_of_ble_eq_true rfl) di_5_9 (fun H locs hP hD hS => ?_)
  have hP : va_P D mm_K [(h0, .inr (5, [.ref q1, .null, .null, .null, .int 0, .null, .null, .int 0])), (q1, .inl (cA2, 36, .inr (.inl (fun _ => 0))))] H := hP
  have hD : va_D A [(h0, .inr (5, [.ref q1, .null, .null, .null, .int 0, .null, .null, .int 0])), (q1, .inl (cA2, 36, .inr (.inl (fun _ => 0))))] := hD
  refine lv_aload_n hx hb di_5_12 rfl (lv_at hl 0 rfl) ?_
  refine lv_bipush (v := 36) hx hb di_5_13 (by decide) ?_
  refine va_newa (atype := .long) (ty := .long) (a0 := (36, .inr (.inl (fun _ => 0)))) hx hb (htb _ wa_long) rfl hK hP hD hS hA (fun _ => rfl) (by decide) rfl (by decide) (Nat.le_of_ble_eq_true rfl) (Nat.le_of_ble_eq_true rfl) di_5_15 (fun q3 cA4 H hK hP hD hS => ?_)
  have hP : va_P D mm_K [(h0, .inr (5, [.ref q1, .null, .null, .null, .int 0, .null, .null, .int 0])), (q1, .inl (cA2, 36, .inr (.inl (fun _ => 0)))), (q3, .inl (cA4, 36, .inr (.inl (fun _ => 0))))] H := hP
  have hD : va_D A [(h0, .inr (5, [.ref q1, .null, .null, .null, .int 0, .null, .null, .int 0])), (q1, .inl (cA2, 36, .inr (.inl (fun _ => 0)))), (q3, .inl (cA4, 36, .inr (.inl (fun _ => 0))))] := hD
  have hK : va_K D mm_K [(cA2, .long), (cA4, .long)] s := hK
  refine va_putF (D := D) (ci := 5) (v := .ref q3) (ty := .array .long) (C := RX5) (T := TX5) (N := 8) hx hb htb mu_5 tyX5 tyX5_ok nmX5 hown hK hP hD hS 0 rfl rfl 1 (by decide) (htb _ wf_5_15) (fun _ h9 => h9) rfl hin rfl (by decide +kernel) rfl rfl (Nat.le_of_ble_eq_true rfl) di_5_17 (fun H locs hP hD hS => ?_)
  have hP : va_P D mm_K [(h0, .inr (5, [.ref q1, .ref q3, .null, .null, .int 0, .null, .null, .int 0])), (q1, .inl (cA2, 36, .inr (.inl (fun _ => 0)))), (q3, .inl (cA4, 36, .inr (.inl (fun _ => 0))))] H := hP
  have hD : va_D A [(h0, .inr (5, [.ref q1, .ref q3, .null, .null, .int 0, .null, .null, .int 0])), (q1, .inl (cA2, 36, .inr (.inl (fun _ => 0)))), (q3, .inl (cA4, 36, .inr (.inl (fun _ => 0))))] := hD
  refine lv_aload_n hx hb di_5_20 rfl (lv_at hl 0 rfl) ?_
  refine lv_bipush (v := 36) hx hb di_5_21 (by decide) ?_
  refine va_newa (atype := .long) (ty := .long) (a0 := (36, .inr (.inl (fun _ => 0)))) hx hb (htb _ wa_long) rfl hK hP hD hS hA (fun _ => rfl) (by decide) rfl (by decide) (Nat.le_of_ble_eq_true rfl) (Nat.le_of_ble_eq_true rfl) di_5_23 (fun q5 cA6 H hK hP hD hS => ?_)
  have hP : va_P D mm_K [(h0, .inr (5, [.ref q1, .ref q3, .null, .null, .int 0, .null, .null, .int 0])), (q1, .inl (cA2, 36, .inr (.inl (fun _ => 0)))), (q3, .inl (cA4, 36, .inr (.inl (fun _ => 0)))), (q5, .inl (cA6, 36, .inr (.inl (fun _ => 0))))] H := hP
  have hD : va_D A [(h0, .inr (5, [.ref q1, .ref q3, .null, .null, .int 0, .null, .null, .int 0])), (q1, .inl (cA2, 36, .inr (.inl (fun _ => 0)))), (q3, .inl (cA4, 36, .inr (.inl (fun _ => 0)))), (q5, .inl (cA6, 36, .inr (.inl (fun _ => 0))))] := hD
  have hK : va_K D mm_K [(cA2, .long), (cA4, .long), (cA6, .long)] s := hK
  refine va_putF (D := D) (ci := 5) (v := .ref q5) (ty := .array .long) (C := RX5) (T := TX5) (N := 8) hx hb htb mu_5 tyX5 tyX5_ok nmX5 hown hK hP hD hS 0 rfl rfl 2 (by decide) (htb _ wf_5_18) (fun _ h9 => h9) rfl hin rfl (by decide +kernel) rfl rfl (Nat.le_of_ble_eq_true rfl) di_5_25 (fun H locs hP hD hS => ?_)
  have hP : va_P D mm_K [(h0, .inr (5, [.ref q1, .ref q3, .ref q5, .null, .int 0, .null, .null, .int 0])), (q1, .inl (cA2, 36, .inr (.inl (fun _ => 0)))), (q3, .inl (cA4, 36, .inr (.inl (fun _ => 0)))), (q5, .inl (cA6, 36, .inr (.inl (fun _ => 0))))] H := hP
  have hD : va_D A [(h0, .inr (5, [.ref q1, .ref q3, .ref q5, .null, .int 0, .null, .null, .int 0])), (q1, .inl (cA2, 36, .inr (.inl (fun _ => 0)))), (q3, .inl (cA4, 36, .inr (.inl (fun _ => 0)))), (q5, .inl (cA6, 36, .inr (.inl (fun _ => 0))))] := hD
  refine lv_aload_n hx hb di_5_28 rfl (lv_at hl 0 rfl) ?_
  refine lv_bipush (v := 6) hx hb di_5_29 (by decide) ?_
  refine va_newa (atype := .int) (ty := .int) (a0 := (6, .inl (fun _ => 0))) hx hb (htb _ wa_int) rfl hK hP hD hS hA (fun _ => rfl) (by decide) rfl (by decide) (Nat.le_of_ble_eq_true rfl) (Nat.le_of_ble_eq_true rfl) di_5_31 (fun q7 cA8 H hK hP hD hS => ?_)
  have hP : va_P D mm_K [(h0, .inr (5, [.ref q1, .ref q3, .ref q5, .null, .int 0, .null, .null, .int 0])), (q1, .inl (cA2, 36, .inr (.inl (fun _ => 0)))), (q3, .inl (cA4, 36, .inr (.inl (fun _ => 0)))), (q5, .inl (cA6, 36, .inr (.inl (fun _ => 0)))), (q7, .inl (cA8, 6, .inl (fun _ => 0)))] H := hP
  have hD : va_D A [(h0, .inr (5, [.ref q1, .ref q3, .ref q5, .null, .int 0, .null, .null, .int 0])), (q1, .inl (cA2, 36, .inr (.inl (fun _ => 0)))), (q3, .inl (cA4, 36, .inr (.inl (fun _ => 0)))), (q5, .inl (cA6, 36, .inr (.inl (fun _ => 0)))), (q7, .inl (cA8, 6, .inl (fun _ => 0)))] := hD
  have hK : va_K D mm_K [(cA2, .long), (cA4, .long), (cA6, .long), (cA8, .int)] s := hK
  refine va_putF (D := D) (ci := 5) (v := .ref q7) (ty := .array .int) (C := RX5) (T := TX5) (N := 8) hx hb htb mu_5 tyX5 tyX5_ok nmX5 hown hK hP hD hS 0 rfl rfl 3 (by decide) (htb _ wf_5_21) (fun _ h9 => h9) rfl hin rfl (by decide +kernel) rfl rfl (Nat.le_of_ble_eq_true rfl) di_5_33 (fun H locs hP hD hS => ?_)
  have hP : va_P D mm_K [(h0, .inr (5, [.ref q1, .ref q3, .ref q5, .ref q7, .int 0, .null, .null, .int 0])), (q1, .inl (cA2, 36, .inr (.inl (fun _ => 0)))), (q3, .inl (cA4, 36, .inr (.inl (fun _ => 0)))), (q5, .inl (cA6, 36, .inr (.inl (fun _ => 0)))), (q7, .inl (cA8, 6, .inl (fun _ => 0)))] H := hP
  have hD : va_D A [(h0, .inr (5, [.ref q1, .ref q3, .ref q5, .ref q7, .int 0, .null, .null, .int 0])), (q1, .inl (cA2, 36, .inr (.inl (fun _ => 0)))), (q3, .inl (cA4, 36, .inr (.inl (fun _ => 0)))), (q5, .inl (cA6, 36, .inr (.inl (fun _ => 0)))), (q7, .inl (cA8, 6, .inl (fun _ => 0)))] := hD
  refine lv_aload_n hx hb di_5_36 rfl (lv_at hl 0 rfl) ?_
  refine lv_bipush (v := 6) hx hb di_5_37 (by decide) ?_
  refine va_newa (atype := .int) (ty := .int) (a0 := (6, .inl (fun _ => 0))) hx hb (htb _ wa_int) rfl hK hP hD hS hA (fun _ => rfl) (by decide) rfl (by decide) (Nat.le_of_ble_eq_true rfl) (Nat.le_of_ble_eq_true rfl) di_5_39 (fun q9 cA10 H hK hP hD hS => ?_)
  have hP : va_P D mm_K [(h0, .inr (5, [.ref q1, .ref q3, .ref q5, .ref q7, .int 0, .null, .null, .int 0])), (q1, .inl (cA2, 36, .inr (.inl (fun _ => 0)))), (q3, .inl (cA4, 36, .inr (.inl (fun _ => 0)))), (q5, .inl (cA6, 36, .inr (.inl (fun _ => 0)))), (q7, .inl (cA8, 6, .inl (fun _ => 0))), (q9, .inl (cA10, 6, .inl (fun _ => 0)))] H := hP
  have hD : va_D A [(h0, .inr (5, [.ref q1, .ref q3, .ref q5, .ref q7, .int 0, .null, .null, .int 0])), (q1, .inl (cA2, 36, .inr (.inl (fun _ => 0)))), (q3, .inl (cA4, 36, .inr (.inl (fun _ => 0)))), (q5, .inl (cA6, 36, .inr (.inl (fun _ => 0)))), (q7, .inl (cA8, 6, .inl (fun _ => 0))), (q9, .inl (cA10, 6, .inl (fun _ => 0)))] := hD
  have hK : va_K D mm_K [(cA2, .long), (cA4, .long), (cA6, .long), (cA8, .int), (cA10, .int)] s := hK
  refine va_putF (D := D) (ci := 5) (v := .ref q9) (ty := .array .int) (C := RX5) (T := TX5) (N := 8) hx hb htb mu_5 tyX5 tyX5_ok nmX5 hown hK hP hD hS 0 rfl rfl 5 (by decide) (htb _ wf_5_25) (fun _ h9 => h9) rfl hin rfl (by decide +kernel) rfl rfl (Nat.le_of_ble_eq_true rfl) di_5_41 (fun H locs hP hD hS => ?_)
  have hP : va_P D mm_K [(h0, .inr (5, [.ref q1, .ref q3, .ref q5, .ref q7, .int 0, .ref q9, .null, .int 0])), (q1, .inl (cA2, 36, .inr (.inl (fun _ => 0)))), (q3, .inl (cA4, 36, .inr (.inl (fun _ => 0)))), (q5, .inl (cA6, 36, .inr (.inl (fun _ => 0)))), (q7, .inl (cA8, 6, .inl (fun _ => 0))), (q9, .inl (cA10, 6, .inl (fun _ => 0)))] H := hP
  have hD : va_D A [(h0, .inr (5, [.ref q1, .ref q3, .ref q5, .ref q7, .int 0, .ref q9, .null, .int 0])), (q1, .inl (cA2, 36, .inr (.inl (fun _ => 0)))), (q3, .inl (cA4, 36, .inr (.inl (fun _ => 0)))), (q5, .inl (cA6, 36, .inr (.inl (fun _ => 0)))), (q7, .inl (cA8, 6, .inl (fun _ => 0))), (q9, .inl (cA10, 6, .inl (fun _ => 0)))] := hD
  refine lv_aload_n hx hb di_5_44 rfl (lv_at hl 0 rfl) ?_
  refine lv_bipush (v := 6) hx hb di_5_45 (by decide) ?_
  refine va_newa (atype := .int) (ty := .int) (a0 := (6, .inl (fun _ => 0))) hx hb (htb _ wa_int) rfl hK hP hD hS hA (fun _ => rfl) (by decide) rfl (by decide) (Nat.le_of_ble_eq_true rfl) (Nat.le_of_ble_eq_true rfl) di_5_47 (fun q11 cA12 H hK hP hD hS => ?_)
  have hP : va_P D mm_K [(h0, .inr (5, [.ref q1, .ref q3, .ref q5, .ref q7, .int 0, .ref q9, .null, .int 0])), (q1, .inl (cA2, 36, .inr (.inl (fun _ => 0)))), (q3, .inl (cA4, 36, .inr (.inl (fun _ => 0)))), (q5, .inl (cA6, 36, .inr (.inl (fun _ => 0)))), (q7, .inl (cA8, 6, .inl (fun _ => 0))), (q9, .inl (cA10, 6, .inl (fun _ => 0))), (q11, .inl (cA12, 6, .inl (fun _ => 0)))] H := hP
  have hD : va_D A [(h0, .inr (5, [.ref q1, .ref q3, .ref q5, .ref q7, .int 0, .ref q9, .null, .int 0])), (q1, .inl (cA2, 36, .inr (.inl (fun _ => 0)))), (q3, .inl (cA4, 36, .inr (.inl (fun _ => 0)))), (q5, .inl (cA6, 36, .inr (.inl (fun _ => 0)))), (q7, .inl (cA8, 6, .inl (fun _ => 0))), (q9, .inl (cA10, 6, .inl (fun _ => 0))), (q11, .inl (cA12, 6, .inl (fun _ => 0)))] := hD
  have hK : va_K D mm_K [(cA2, .long), (cA4, .long), (cA6, .long), (cA8, .int), (cA10, .int), (cA12, .int)] s := hK
  refine va_putF (D := D) (ci := 5) (v := .ref q11) (ty := .array .int) (C := RX5) (T := TX5) (N := 8) hx hb htb mu_5 tyX5 tyX5_ok nmX5 hown hK hP hD hS 0 rfl rfl 6 (by decide) (htb _ wf_5_28) (fun _ h9 => h9) rfl hin rfl (by decide +kernel) rfl rfl (Nat.le_of_ble_eq_true rfl) di_5_49 (fun H locs hP hD hS => ?_)
  have hP : va_P D mm_K [(h0, .inr (5, [.ref q1, .ref q3, .ref q5, .ref q7, .int 0, .ref q9, .ref q11, .int 0])), (q1, .inl (cA2, 36, .inr (.inl (fun _ => 0)))), (q3, .inl (cA4, 36, .inr (.inl (fun _ => 0)))), (q5, .inl (cA6, 36, .inr (.inl (fun _ => 0)))), (q7, .inl (cA8, 6, .inl (fun _ => 0))), (q9, .inl (cA10, 6, .inl (fun _ => 0))), (q11, .inl (cA12, 6, .inl (fun _ => 0)))] H := hP
  have hD : va_D A [(h0, .inr (5, [.ref q1, .ref q3, .ref q5, .ref q7, .int 0, .ref q9, .ref q11, .int 0])), (q1, .inl (cA2, 36, .inr (.inl (fun _ => 0)))), (q3, .inl (cA4, 36, .inr (.inl (fun _ => 0)))), (q5, .inl (cA6, 36, .inr (.inl (fun _ => 0)))), (q7, .inl (cA8, 6, .inl (fun _ => 0))), (q9, .inl (cA10, 6, .inl (fun _ => 0))), (q11, .inl (cA12, 6, .inl (fun _ => 0)))] := hD
  refine W.widen (k := 6) (n := 126) (Nat.le_of_ble_eq_true rfl) (Nat.le_of_ble_eq_true rfl) ?_
  exact W.vret hx hb hr (fun t ht hW => ⟨⟨(), rfl, trivial, q1, q3, q5, q7, q9, q11, cA2, cA4, cA6, cA8, cA10, cA12, by rw [ht]; exact hP, va_K.moved hW.alike hK, hD⟩, hS.F ht⟩) hS.2.2 di_5_52
theorem wo_0 : Cond.methodLink RX0 3 objectInit ∈ mm_TB := (mm_t1 (w := .methodLink RX0 3 objectInit) 106 (by decide +kernel) (by decide +kernel))
theorem wf_0_9 : Cond.fieldLink RX0 9 "PondRings$Listing" "kinds" "[I" ∈ mm_TB := (mm_t1 (w := .fieldLink RX0 9 "PondRings$Listing" "kinds" "[I") 107 (by decide +kernel) (by decide +kernel))
theorem wf_0_15 : Cond.fieldLink RX0 15 "PondRings$Listing" "places" "[I" ∈ mm_TB := (mm_t1 (w := .fieldLink RX0 15 "PondRings$Listing" "places" "[I") 109 (by decide +kernel) (by decide +kernel))
theorem wf_0_18 : Cond.fieldLink RX0 18 "PondRings$Listing" "minutes" "[I" ∈ mm_TB := (mm_t1 (w := .fieldLink RX0 18 "PondRings$Listing" "minutes" "[I") 113 (by decide +kernel) (by decide +kernel))
set_option maxHeartbeats 4000000 in
set_option maxRecDepth 100000 in
theorem c_X0_8 (l : Launch) (D : va_G) (h0 sz : Nat) : Met l yX0_init (Cond.code yX0_init cX0_init 2 none :: mm_TB) ({ frames := 2, cells := 3, slots := 24, locals := 64 }) (va_Pc [.ref h0, .int (8 : Int32)] (fun U => U.heap.size = sz ∧ va_P D mm_K [(h0, .inr (0, [.null, .null, .null, .int 0]))] U.heap ∧ va_K D mm_K [] U ∧ va_D (fun _ => True) [(h0, .inr (0, [.null, .null, .null, .int 0]))])) (va_Qv (fun _ : Unit => True) (fun (_ : Unit) (t : State) => ∃ (q1 : Nat) (q3 : Nat) (q5 : Nat) (cA2 : ClassId) (cA4 : ClassId) (cA6 : ClassId), va_P D mm_K [(h0, .inr (0, [.ref q1, .ref q3, .ref q5, .int 0])), (q1, .inl (cA2, 8, .inl (fun _ => 0))), (q3, .inl (cA4, 8, .inl (fun _ => 0))), (q5, .inl (cA6, 8, .inl (fun _ => 0)))] t.heap ∧ va_K D mm_K [(cA2, .int), (cA4, .int), (cA6, .int)] t ∧ va_D (va_A [(h0, .inr (0, [.null, .null, .null, .int 0]))] sz) [(h0, .inr (0, [.ref q1, .ref q3, .ref q5, .int 0])), (q1, .inl (cA2, 8, .inl (fun _ => 0))), (q3, .inl (cA4, 8, .inl (fun _ => 0))), (q5, .inl (cA6, 8, .inl (fun _ => 0)))]) (va_A [(h0, .inr (0, [.null, .null, .null, .int 0]))] sz)) 3 24 (va_A [(h0, .inr (0, [.null, .null, .null, .int 0]))] sz) := by
  refine Met.ofW (cc := cX0_init) (maxL := 2) (ret := none) (by decide) rfl ?_
  intro p e s m args below meth c s₁ B hml hv
  obtain ⟨rfl, hsz, hP, hK, hD0⟩ := hv
  have hx := B.exec
  have hb := B.bytes
  have hr := B.returns
  have hts := atoms_spec (ws := Cond.code yX0_init cX0_init 2 none :: mm_TB) B.pre
  have htb : ∀ w ∈ mm_TB, w.before [.ref h0, .int (8 : Int32)].toArray s = true := fun w hw => hts w (List.mem_cons_of_mem _ hw)
  have hown : s.vm.findClass RX0 = some m.cls := findClass_of_methodNamed B.named
  have hlocks := B.notSynchronized
  have hin : meth.name = "<init>" := (name_of_methodNamed B.named B.method).1
  subst hsz
  have hD := hD0.self (sz := s.heap.size)
  generalize hAe : va_A [(h0, .inr (0, [.null, .null, .null, .int 0]))] s.heap.size = A at hD ⊢
  have hA : ∀ q : Nat, s.heap.size ≤ q → A q := fun q h => by rw [← hAe]; exact Or.inr h
  have hS : va_S A s.heap s.heap [] := va_S.rf
  have hl := lv_entry ([.ref h0, .int (8 : Int32)]) (n := 2) (Nat.le_of_ble_eq_true rfl)
  rw [lg_entry_eq]
  generalize (lg_sl ([.ref h0, .int (8 : Int32)]) ++ List.replicate (2 - (lg_sl ([.ref h0, .int (8 : Int32)])).length) Slot.unset).toArray = ls at hl ⊢
  have hl : lv_has ls 2 [(0, .ref h0), (1, .int (8 : Int32))] := hl
  refine lv_aload_n hx hb di_0_0 rfl (lv_at hl 0 rfl) ?_
  refine W.objInit hx hb hown (htb _ wo_0) (htb _ wo_inst) (htb _ wo_code) rfl (by rw [hml]; exact hl.1) rfl di_0_1 (Nat.le_of_ble_eq_true rfl) (Nat.le_of_ble_eq_true rfl) ?_
  refine W.eq (g2 := F0 m 4 ls []) rfl ?_
  refine lv_aload_n hx hb di_0_4 rfl (lv_at hl 0 rfl) ?_
  refine lv_iload_n hx hb di_0_5 rfl (lv_at hl 1 rfl) ?_
  refine va_newa (atype := .int) (ty := .int) (a0 := (8, .inl (fun _ => 0))) hx hb (htb _ wa_int) rfl hK hP hD hS hA (fun _ => rfl) (by decide) rfl (by decide) (Nat.le_of_ble_eq_true rfl) (Nat.le_of_ble_eq_true rfl) di_0_6 (fun q1 cA2 H hK hP hD hS => ?_)
  have hP : va_P D mm_K [(h0, .inr (0, [.null, .null, .null, .int 0])), (q1, .inl (cA2, 8, .inl (fun _ => 0)))] H := hP
  have hD : va_D A [(h0, .inr (0, [.null, .null, .null, .int 0])), (q1, .inl (cA2, 8, .inl (fun _ => 0)))] := hD
  have hK : va_K D mm_K [(cA2, .int)] s := hK
  refine va_putF (D := D) (ci := 0) (v := .ref q1) (ty := .array .int) (C := RX0) (T := TX0) (N := 4) hx hb htb mu_0 tyX0 tyX0_ok nmX0 hown hK hP hD hS 0 rfl rfl 0 (by decide) (htb _ wf_0_9) (fun _ h9 => h9) rfl hin rfl (by decide +kernel) rfl rfl (Nat.le_of_ble_eq_true rfl) di_0_8 (fun H locs hP hD hS => ?_)
  have hP : va_P D mm_K [(h0, .inr (0, [.ref q1, .null, .null, .int 0])), (q1, .inl (cA2, 8, .inl (fun _ => 0)))] H := hP
  have hD : va_D A [(h0, .inr (0, [.ref q1, .null, .null, .int 0])), (q1, .inl (cA2, 8, .inl (fun _ => 0)))] := hD
  refine lv_aload_n hx hb di_0_11 rfl (lv_at hl 0 rfl) ?_
  refine lv_iload_n hx hb di_0_12 rfl (lv_at hl 1 rfl) ?_
  refine va_newa (atype := .int) (ty := .int) (a0 := (8, .inl (fun _ => 0))) hx hb (htb _ wa_int) rfl hK hP hD hS hA (fun _ => rfl) (by decide) rfl (by decide) (Nat.le_of_ble_eq_true rfl) (Nat.le_of_ble_eq_true rfl) di_0_13 (fun q3 cA4 H hK hP hD hS => ?_)
  have hP : va_P D mm_K [(h0, .inr (0, [.ref q1, .null, .null, .int 0])), (q1, .inl (cA2, 8, .inl (fun _ => 0))), (q3, .inl (cA4, 8, .inl (fun _ => 0)))] H := hP
  have hD : va_D A [(h0, .inr (0, [.ref q1, .null, .null, .int 0])), (q1, .inl (cA2, 8, .inl (fun _ => 0))), (q3, .inl (cA4, 8, .inl (fun _ => 0)))] := hD
  have hK : va_K D mm_K [(cA2, .int), (cA4, .int)] s := hK
  refine va_putF (D := D) (ci := 0) (v := .ref q3) (ty := .array .int) (C := RX0) (T := TX0) (N := 4) hx hb htb mu_0 tyX0 tyX0_ok nmX0 hown hK hP hD hS 0 rfl rfl 1 (by decide) (htb _ wf_0_15) (fun _ h9 => h9) rfl hin rfl (by decide +kernel) rfl rfl (Nat.le_of_ble_eq_true rfl) di_0_15 (fun H locs hP hD hS => ?_)
  have hP : va_P D mm_K [(h0, .inr (0, [.ref q1, .ref q3, .null, .int 0])), (q1, .inl (cA2, 8, .inl (fun _ => 0))), (q3, .inl (cA4, 8, .inl (fun _ => 0)))] H := hP
  have hD : va_D A [(h0, .inr (0, [.ref q1, .ref q3, .null, .int 0])), (q1, .inl (cA2, 8, .inl (fun _ => 0))), (q3, .inl (cA4, 8, .inl (fun _ => 0)))] := hD
  refine lv_aload_n hx hb di_0_18 rfl (lv_at hl 0 rfl) ?_
  refine lv_iload_n hx hb di_0_19 rfl (lv_at hl 1 rfl) ?_
  refine va_newa (atype := .int) (ty := .int) (a0 := (8, .inl (fun _ => 0))) hx hb (htb _ wa_int) rfl hK hP hD hS hA (fun _ => rfl) (by decide) rfl (by decide) (Nat.le_of_ble_eq_true rfl) (Nat.le_of_ble_eq_true rfl) di_0_20 (fun q5 cA6 H hK hP hD hS => ?_)
  have hP : va_P D mm_K [(h0, .inr (0, [.ref q1, .ref q3, .null, .int 0])), (q1, .inl (cA2, 8, .inl (fun _ => 0))), (q3, .inl (cA4, 8, .inl (fun _ => 0))), (q5, .inl (cA6, 8, .inl (fun _ => 0)))] H := hP
  have hD : va_D A [(h0, .inr (0, [.ref q1, .ref q3, .null, .int 0])), (q1, .inl (cA2, 8, .inl (fun _ => 0))), (q3, .inl (cA4, 8, .inl (fun _ => 0))), (q5, .inl (cA6, 8, .inl (fun _ => 0)))] := hD
  have hK : va_K D mm_K [(cA2, .int), (cA4, .int), (cA6, .int)] s := hK
  refine va_putF (D := D) (ci := 0) (v := .ref q5) (ty := .array .int) (C := RX0) (T := TX0) (N := 4) hx hb htb mu_0 tyX0 tyX0_ok nmX0 hown hK hP hD hS 0 rfl rfl 2 (by decide) (htb _ wf_0_18) (fun _ h9 => h9) rfl hin rfl (by decide +kernel) rfl rfl (Nat.le_of_ble_eq_true rfl) di_0_22 (fun H locs hP hD hS => ?_)
  have hP : va_P D mm_K [(h0, .inr (0, [.ref q1, .ref q3, .ref q5, .int 0])), (q1, .inl (cA2, 8, .inl (fun _ => 0))), (q3, .inl (cA4, 8, .inl (fun _ => 0))), (q5, .inl (cA6, 8, .inl (fun _ => 0)))] H := hP
  have hD : va_D A [(h0, .inr (0, [.ref q1, .ref q3, .ref q5, .int 0])), (q1, .inl (cA2, 8, .inl (fun _ => 0))), (q3, .inl (cA4, 8, .inl (fun _ => 0))), (q5, .inl (cA6, 8, .inl (fun _ => 0)))] := hD
  refine W.widen (k := 3) (n := 24) (Nat.le_of_ble_eq_true rfl) (Nat.le_of_ble_eq_true rfl) ?_
  exact W.vret hx hb hr (fun t ht hW => ⟨⟨(), rfl, trivial, q1, q3, q5, cA2, cA4, cA6, by rw [ht]; exact hP, va_K.moved hW.alike hK, hD⟩, hS.F ht⟩) hS.2.2 di_0_25
set_option maxHeartbeats 4000000 in
set_option maxRecDepth 100000 in
theorem c_X0_6 (l : Launch) (D : va_G) (h0 sz : Nat) : Met l yX0_init (Cond.code yX0_init cX0_init 2 none :: mm_TB) ({ frames := 2, cells := 3, slots := 18, locals := 64 }) (va_Pc [.ref h0, .int (6 : Int32)] (fun U => U.heap.size = sz ∧ va_P D mm_K [(h0, .inr (0, [.null, .null, .null, .int 0]))] U.heap ∧ va_K D mm_K [] U ∧ va_D (fun _ => True) [(h0, .inr (0, [.null, .null, .null, .int 0]))])) (va_Qv (fun _ : Unit => True) (fun (_ : Unit) (t : State) => ∃ (q1 : Nat) (q3 : Nat) (q5 : Nat) (cA2 : ClassId) (cA4 : ClassId) (cA6 : ClassId), va_P D mm_K [(h0, .inr (0, [.ref q1, .ref q3, .ref q5, .int 0])), (q1, .inl (cA2, 6, .inl (fun _ => 0))), (q3, .inl (cA4, 6, .inl (fun _ => 0))), (q5, .inl (cA6, 6, .inl (fun _ => 0)))] t.heap ∧ va_K D mm_K [(cA2, .int), (cA4, .int), (cA6, .int)] t ∧ va_D (va_A [(h0, .inr (0, [.null, .null, .null, .int 0]))] sz) [(h0, .inr (0, [.ref q1, .ref q3, .ref q5, .int 0])), (q1, .inl (cA2, 6, .inl (fun _ => 0))), (q3, .inl (cA4, 6, .inl (fun _ => 0))), (q5, .inl (cA6, 6, .inl (fun _ => 0)))]) (va_A [(h0, .inr (0, [.null, .null, .null, .int 0]))] sz)) 3 18 (va_A [(h0, .inr (0, [.null, .null, .null, .int 0]))] sz) := by
  refine Met.ofW (cc := cX0_init) (maxL := 2) (ret := none) (by decide) rfl ?_
  intro p e s m args below meth c s₁ B hml hv
  obtain ⟨rfl, hsz, hP, hK, hD0⟩ := hv
  have hx := B.exec
  have hb := B.bytes
  have hr := B.returns
  have hts := atoms_spec (ws := Cond.code yX0_init cX0_init 2 none :: mm_TB) B.pre
  have htb : ∀ w ∈ mm_TB, w.before [.ref h0, .int (6 : Int32)].toArray s = true := fun w hw => hts w (List.mem_cons_of_mem _ hw)
  have hown : s.vm.findClass RX0 = some m.cls := findClass_of_methodNamed B.named
  have hlocks := B.notSynchronized
  have hin : meth.name = "<init>" := (name_of_methodNamed B.named B.method).1
  subst hsz
  have hD := hD0.self (sz := s.heap.size)
  generalize hAe : va_A [(h0, .inr (0, [.null, .null, .null, .int 0]))] s.heap.size = A at hD ⊢
  have hA : ∀ q : Nat, s.heap.size ≤ q → A q := fun q h => by rw [← hAe]; exact Or.inr h
  have hS : va_S A s.heap s.heap [] := va_S.rf
  have hl := lv_entry ([.ref h0, .int (6 : Int32)]) (n := 2) (Nat.le_of_ble_eq_true rfl)
  rw [lg_entry_eq]
  generalize (lg_sl ([.ref h0, .int (6 : Int32)]) ++ List.replicate (2 - (lg_sl ([.ref h0, .int (6 : Int32)])).length) Slot.unset).toArray = ls at hl ⊢
  have hl : lv_has ls 2 [(0, .ref h0), (1, .int (6 : Int32))] := hl
  refine lv_aload_n hx hb di_0_0 rfl (lv_at hl 0 rfl) ?_
  refine W.objInit hx hb hown (htb _ wo_0) (htb _ wo_inst) (htb _ wo_code) rfl (by rw [hml]; exact hl.1) rfl di_0_1 (Nat.le_of_ble_eq_true rfl) (Nat.le_of_ble_eq_true rfl) ?_
  refine W.eq (g2 := F0 m 4 ls []) rfl ?_
  refine lv_aload_n hx hb di_0_4 rfl (lv_at hl 0 rfl) ?_
  refine lv_iload_n hx hb di_0_5 rfl (lv_at hl 1 rfl) ?_
  refine va_newa (atype := .int) (ty := .int) (a0 := (6, .inl (fun _ => 0))) hx hb (htb _ wa_int) rfl hK hP hD hS hA (fun _ => rfl) (by decide) rfl (by decide) (Nat.le_of_ble_eq_true rfl) (Nat.le_of_ble_eq_true rfl) di_0_6 (fun q1 cA2 H hK hP hD hS => ?_)
  have hP : va_P D mm_K [(h0, .inr (0, [.null, .null, .null, .int 0])), (q1, .inl (cA2, 6, .inl (fun _ => 0)))] H := hP
  have hD : va_D A [(h0, .inr (0, [.null, .null, .null, .int 0])), (q1, .inl (cA2, 6, .inl (fun _ => 0)))] := hD
  have hK : va_K D mm_K [(cA2, .int)] s := hK
  refine va_putF (D := D) (ci := 0) (v := .ref q1) (ty := .array .int) (C := RX0) (T := TX0) (N := 4) hx hb htb mu_0 tyX0 tyX0_ok nmX0 hown hK hP hD hS 0 rfl rfl 0 (by decide) (htb _ wf_0_9) (fun _ h9 => h9) rfl hin rfl (by decide +kernel) rfl rfl (Nat.le_of_ble_eq_true rfl) di_0_8 (fun H locs hP hD hS => ?_)
  have hP : va_P D mm_K [(h0, .inr (0, [.ref q1, .null, .null, .int 0])), (q1, .inl (cA2, 6, .inl (fun _ => 0)))] H := hP
  have hD : va_D A [(h0, .inr (0, [.ref q1, .null, .null, .int 0])), (q1, .inl (cA2, 6, .inl (fun _ => 0)))] := hD
  refine lv_aload_n hx hb di_0_11 rfl (lv_at hl 0 rfl) ?_
  refine lv_iload_n hx hb di_0_12 rfl (lv_at hl 1 rfl) ?_
  refine va_newa (atype := .int) (ty := .int) (a0 := (6, .inl (fun _ => 0))) hx hb (htb _ wa_int) rfl hK hP hD hS hA (fun _ => rfl) (by decide) rfl (by decide) (Nat.le_of_ble_eq_true rfl) (Nat.le_of_ble_eq_true rfl) di_0_13 (fun q3 cA4 H hK hP hD hS => ?_)
  have hP : va_P D mm_K [(h0, .inr (0, [.ref q1, .null, .null, .int 0])), (q1, .inl (cA2, 6, .inl (fun _ => 0))), (q3, .inl (cA4, 6, .inl (fun _ => 0)))] H := hP
  have hD : va_D A [(h0, .inr (0, [.ref q1, .null, .null, .int 0])), (q1, .inl (cA2, 6, .inl (fun _ => 0))), (q3, .inl (cA4, 6, .inl (fun _ => 0)))] := hD
  have hK : va_K D mm_K [(cA2, .int), (cA4, .int)] s := hK
  refine va_putF (D := D) (ci := 0) (v := .ref q3) (ty := .array .int) (C := RX0) (T := TX0) (N := 4) hx hb htb mu_0 tyX0 tyX0_ok nmX0 hown hK hP hD hS 0 rfl rfl 1 (by decide) (htb _ wf_0_15) (fun _ h9 => h9) rfl hin rfl (by decide +kernel) rfl rfl (Nat.le_of_ble_eq_true rfl) di_0_15 (fun H locs hP hD hS => ?_)
  have hP : va_P D mm_K [(h0, .inr (0, [.ref q1, .ref q3, .null, .int 0])), (q1, .inl (cA2, 6, .inl (fun _ => 0))), (q3, .inl (cA4, 6, .inl (fun _ => 0)))] H := hP
  have hD : va_D A [(h0, .inr (0, [.ref q1, .ref q3, .null, .int 0])), (q1, .inl (cA2, 6, .inl (fun _ => 0))), (q3, .inl (cA4, 6, .inl (fun _ => 0)))] := hD
  refine lv_aload_n hx hb di_0_18 rfl (lv_at hl 0 rfl) ?_
  refine lv_iload_n hx hb di_0_19 rfl (lv_at hl 1 rfl) ?_
  refine va_newa (atype := .int) (ty := .int) (a0 := (6, .inl (fun _ => 0))) hx hb (htb _ wa_int) rfl hK hP hD hS hA (fun _ => rfl) (by decide) rfl (by decide) (Nat.le_of_ble_eq_true rfl) (Nat.le_of_ble_eq_true rfl) di_0_20 (fun q5 cA6 H hK hP hD hS => ?_)
  have hP : va_P D mm_K [(h0, .inr (0, [.ref q1, .ref q3, .null, .int 0])), (q1, .inl (cA2, 6, .inl (fun _ => 0))), (q3, .inl (cA4, 6, .inl (fun _ => 0))), (q5, .inl (cA6, 6, .inl (fun _ => 0)))] H := hP
  have hD : va_D A [(h0, .inr (0, [.ref q1, .ref q3, .null, .int 0])), (q1, .inl (cA2, 6, .inl (fun _ => 0))), (q3, .inl (cA4, 6, .inl (fun _ => 0))), (q5, .inl (cA6, 6, .inl (fun _ => 0)))] := hD
  have hK : va_K D mm_K [(cA2, .int), (cA4, .int), (cA6, .int)] s := hK
  refine va_putF (D := D) (ci := 0) (v := .ref q5) (ty := .array .int) (C := RX0) (T := TX0) (N := 4) hx hb htb mu_0 tyX0 tyX0_ok nmX0 hown hK hP hD hS 0 rfl rfl 2 (by decide) (htb _ wf_0_18) (fun _ h9 => h9) rfl hin rfl (by decide +kernel) rfl rfl (Nat.le_of_ble_eq_true rfl) di_0_22 (fun H locs hP hD hS => ?_)
  have hP : va_P D mm_K [(h0, .inr (0, [.ref q1, .ref q3, .ref q5, .int 0])), (q1, .inl (cA2, 6, .inl (fun _ => 0))), (q3, .inl (cA4, 6, .inl (fun _ => 0))), (q5, .inl (cA6, 6, .inl (fun _ => 0)))] H := hP
  have hD : va_D A [(h0, .inr (0, [.ref q1, .ref q3, .ref q5, .int 0])), (q1, .inl (cA2, 6, .inl (fun _ => 0))), (q3, .inl (cA4, 6, .inl (fun _ => 0))), (q5, .inl (cA6, 6, .inl (fun _ => 0)))] := hD
  refine W.widen (k := 3) (n := 18) (Nat.le_of_ble_eq_true rfl) (Nat.le_of_ble_eq_true rfl) ?_
  exact W.vret hx hb hr (fun t ht hW => ⟨⟨(), rfl, trivial, q1, q3, q5, cA2, cA4, cA6, by rw [ht]; exact hP, va_K.moved hW.alike hK, hD⟩, hS.F ht⟩) hS.2.2 di_0_25
def mc_N (U : State) : Prop := va_Nw (.methodLinkNest RX6 17 yX4_init "PondRings") U ∧ va_Nw (.methodLinkNest RX6 20 yX3_init "PondRings") U ∧ va_Nw (.methodLinkNest RX6 27 yX2_init "PondRings") U ∧ va_Nw (.methodLinkNest RX6 49 yX1_init "PondRings") U ∧ va_Nw (.methodLinkNest RX6 56 yX5_init "PondRings") U ∧ va_AO "PondRings$Sheet" U
theorem wo_7 : Cond.methodLink RX7 1 objectInit ∈ mm_TB := (mm_t3 (w := .methodLink RX7 1 objectInit) 137 (by decide +kernel) (by decide +kernel))
theorem wf_7_9 : Cond.fieldLink RX7 9 "PondRingsModel" "sorts" "[I" ∈ mm_TB := (mm_t3 (w := .fieldLink RX7 9 "PondRingsModel" "sorts" "[I") 140 (by decide +kernel) (by decide +kernel))
theorem wf_7_13 : Cond.fieldLink RX7 13 "PondRingsModel" "sheetLong" "[I" ∈ mm_TB := (mm_t3 (w := .fieldLink RX7 13 "PondRingsModel" "sheetLong" "[I") 141 (by decide +kernel) (by decide +kernel))
theorem wf_7_16 : Cond.fieldLink RX7 16 "PondRingsModel" "cells" "[I" ∈ mm_TB := (mm_t3 (w := .fieldLink RX7 16 "PondRingsModel" "cells" "[I") 142 (by decide +kernel) (by decide +kernel))
theorem wf_7_19 : Cond.fieldLink RX7 19 "PondRingsModel" "isWater" "[Z" ∈ mm_TB := (mm_t3 (w := .fieldLink RX7 19 "PondRingsModel" "isWater" "[Z") 145 (by decide +kernel) (by decide +kernel))
theorem wf_7_23 : Cond.fieldLink RX7 23 "PondRingsModel" "ways" "[I" ∈ mm_TB := (mm_t3 (w := .fieldLink RX7 23 "PondRingsModel" "ways" "[I") 146 (by decide +kernel) (by decide +kernel))
theorem wf_7_26 : Cond.fieldLink RX7 26 "PondRingsModel" "readWater" "[Z" ∈ mm_TB := (mm_t3 (w := .fieldLink RX7 26 "PondRingsModel" "readWater" "[Z") 150 (by decide +kernel) (by decide +kernel))
theorem wf_7_29 : Cond.fieldLink RX7 29 "PondRingsModel" "stoneKind" "[I" ∈ mm_TB := (mm_t3 (w := .fieldLink RX7 29 "PondRingsModel" "stoneKind" "[I") 152 (by decide +kernel) (by decide +kernel))
theorem wf_7_32 : Cond.fieldLink RX7 32 "PondRingsModel" "stoneCell" "[I" ∈ mm_TB := (mm_t3 (w := .fieldLink RX7 32 "PondRingsModel" "stoneCell" "[I") 153 (by decide +kernel) (by decide +kernel))
theorem wf_7_35 : Cond.fieldLink RX7 35 "PondRingsModel" "stoneMinute" "[I" ∈ mm_TB := (mm_t3 (w := .fieldLink RX7 35 "PondRingsModel" "stoneMinute" "[I") 154 (by decide +kernel) (by decide +kernel))
theorem wf_7_38 : Cond.fieldLink RX7 38 "PondRingsModel" "wishKind" "[I" ∈ mm_TB := (mm_t3 (w := .fieldLink RX7 38 "PondRingsModel" "wishKind" "[I") 159 (by decide +kernel) (by decide +kernel))
theorem wf_7_41 : Cond.fieldLink RX7 41 "PondRingsModel" "wishCell" "[I" ∈ mm_TB := (mm_t3 (w := .fieldLink RX7 41 "PondRingsModel" "wishCell" "[I") 160 (by decide +kernel) (by decide +kernel))
theorem wf_7_44 : Cond.fieldLink RX7 44 "PondRingsModel" "doMeet" "[Z" ∈ mm_TB := (mm_t3 (w := .fieldLink RX7 44 "PondRingsModel" "doMeet" "[Z") 161 (by decide +kernel) (by decide +kernel))
theorem wf_7_47 : Cond.fieldLink RX7 47 "PondRingsModel" "minutes" "[I" ∈ mm_TB := (mm_t3 (w := .fieldLink RX7 47 "PondRingsModel" "minutes" "[I") 162 (by decide +kernel) (by decide +kernel))
theorem wf_7_50 : Cond.fieldLink RX7 50 "PondRingsModel" "reedCell" "[I" ∈ mm_TB := (mm_t3 (w := .fieldLink RX7 50 "PondRingsModel" "reedCell" "[I") 164 (by decide +kernel) (by decide +kernel))
theorem wf_7_53 : Cond.fieldLink RX7 53 "PondRingsModel" "reedMinute" "[I" ∈ mm_TB := (mm_t3 (w := .fieldLink RX7 53 "PondRingsModel" "reedMinute" "[I") 165 (by decide +kernel) (by decide +kernel))
set_option maxHeartbeats 4000000 in
set_option maxRecDepth 100000 in
theorem c_X7 (l : Launch) (D : va_G) (h0 sz : Nat) : Met l yX7_init (Cond.code yX7_init cX7_init 1 none :: mm_TB) ({ frames := 2, cells := 15, slots := 5786, locals := 64 }) (va_Pc [.ref h0] (fun U => U.heap.size = sz ∧ va_P D mm_K [(h0, .inr (7, [.int 0, .int 0, .null, .null, .null, .int 0, .int 0, .null, .null, .int 0, .int 0, .int 0, .null, .int 0, .null, .null, .null, .int 0, .int 0, .int 0, .int 0, .null, .null, .null, .null, .int 0, .null, .null]))] U.heap ∧ va_K D mm_K [] U ∧ va_D (fun _ => True) [(h0, .inr (7, [.int 0, .int 0, .null, .null, .null, .int 0, .int 0, .null, .null, .int 0, .int 0, .int 0, .null, .int 0, .null, .null, .null, .int 0, .int 0, .int 0, .int 0, .null, .null, .null, .null, .int 0, .null, .null]))])) (va_Qv (fun _ : Unit => True) (fun (_ : Unit) (t : State) => ∃ (q1 : Nat) (q3 : Nat) (q5 : Nat) (q7 : Nat) (q9 : Nat) (q11 : Nat) (q13 : Nat) (q15 : Nat) (q17 : Nat) (q19 : Nat) (q21 : Nat) (q23 : Nat) (q25 : Nat) (q27 : Nat) (q29 : Nat) (cA2 : ClassId) (cA4 : ClassId) (cA6 : ClassId) (cA8 : ClassId) (cA10 : ClassId) (cA12 : ClassId) (cA14 : ClassId) (cA16 : ClassId) (cA18 : ClassId) (cA20 : ClassId) (cA22 : ClassId) (cA24 : ClassId) (cA26 : ClassId) (cA28 : ClassId) (cA30 : ClassId), va_P D mm_K [(h0, .inr (7, [.int 0, .int 0, .ref q1, .ref q3, .ref q5, .int 0, .int 0, .ref q7, .ref q9, .int 0, .int 0, .int 0, .ref q11, .int 0, .ref q13, .ref q15, .ref q17, .int 0, .int 0, .int 0, .int 0, .ref q19, .ref q21, .ref q23, .ref q25, .int 0, .ref q27, .ref q29])), (q1, .inl (cA2, 4, .inl (upd (upd (upd (upd (fun _ => 0) 0 (-9 : Int32)) 1 (-9 : Int32)) 2 (-9 : Int32)) 3 (-9 : Int32)))), (q3, .inl (cA4, 4, .inl (fun _ => 0))), (q5, .inl (cA6, 240, .inl (fun _ => 0))), (q7, .inl (cA8, 42, .inl (fun _ => 0))), (q9, .inl (cA10, 1764, .inl (fun _ => 0))), (q11, .inl (cA12, 42, .inl (fun _ => 0))), (q13, .inl (cA14, 8, .inl (fun _ => 0))), (q15, .inl (cA16, 8, .inl (fun _ => 0))), (q17, .inl (cA18, 8, .inl (fun _ => 0))), (q19, .inl (cA20, 6, .inl (fun _ => 0))), (q21, .inl (cA22, 6, .inl (fun _ => 0))), (q23, .inl (cA24, 3636, .inl (fun _ => 0))), (q25, .inl (cA26, 6, .inl (fun _ => 0))), (q27, .inl (cA28, 6, .inl (fun _ => 0))), (q29, .inl (cA30, 6, .inl (fun _ => 0)))] t.heap ∧ va_K D mm_K [(cA2, .int), (cA4, .int), (cA6, .int), (cA8, .boolean), (cA10, .int), (cA12, .boolean), (cA14, .int), (cA16, .int), (cA18, .int), (cA20, .int), (cA22, .int), (cA24, .boolean), (cA26, .int), (cA28, .int), (cA30, .int)] t ∧ va_D (va_A [(h0, .inr (7, [.int 0, .int 0, .null, .null, .null, .int 0, .int 0, .null, .null, .int 0, .int 0, .int 0, .null, .int 0, .null, .null, .null, .int 0, .int 0, .int 0, .int 0, .null, .null, .null, .null, .int 0, .null, .null]))] sz) [(h0, .inr (7, [.int 0, .int 0, .ref q1, .ref q3, .ref q5, .int 0, .int 0, .ref q7, .ref q9, .int 0, .int 0, .int 0, .ref q11, .int 0, .ref q13, .ref q15, .ref q17, .int 0, .int 0, .int 0, .int 0, .ref q19, .ref q21, .ref q23, .ref q25, .int 0, .ref q27, .ref q29])), (q1, .inl (cA2, 4, .inl (upd (upd (upd (upd (fun _ => 0) 0 (-9 : Int32)) 1 (-9 : Int32)) 2 (-9 : Int32)) 3 (-9 : Int32)))), (q3, .inl (cA4, 4, .inl (fun _ => 0))), (q5, .inl (cA6, 240, .inl (fun _ => 0))), (q7, .inl (cA8, 42, .inl (fun _ => 0))), (q9, .inl (cA10, 1764, .inl (fun _ => 0))), (q11, .inl (cA12, 42, .inl (fun _ => 0))), (q13, .inl (cA14, 8, .inl (fun _ => 0))), (q15, .inl (cA16, 8, .inl (fun _ => 0))), (q17, .inl (cA18, 8, .inl (fun _ => 0))), (q19, .inl (cA20, 6, .inl (fun _ => 0))), (q21, .inl (cA22, 6, .inl (fun _ => 0))), (q23, .inl (cA24, 3636, .inl (fun _ => 0))), (q25, .inl (cA26, 6, .inl (fun _ => 0))), (q27, .inl (cA28, 6, .inl (fun _ => 0))), (q29, .inl (cA30, 6, .inl (fun _ => 0)))]) (va_A [(h0, .inr (7, [.int 0, .int 0, .null, .null, .null, .int 0, .int 0, .null, .null, .int 0, .int 0, .int 0, .null, .int 0, .null, .null, .null, .int 0, .int 0, .int 0, .int 0, .null, .null, .null, .null, .int 0, .null, .null]))] sz)) 15 5786 (va_A [(h0, .inr (7, [.int 0, .int 0, .null, .null, .null, .int 0, .int 0, .null, .null, .int 0, .int 0, .int 0, .null, .int 0, .null, .null, .null, .int 0, .int 0, .int 0, .int 0, .null, .null, .null, .null, .int 0, .null, .null]))] sz) := by
  refine Met.ofW (cc := cX7_init) (maxL := 1) (ret := none) (by decide) rfl ?_
  intro p e s m args below meth c s₁ B hml hv
  obtain ⟨rfl, hsz, hP, hK, hD0⟩ := hv
  have hx := B.exec
  have hb := B.bytes
  have hr := B.returns
  have hts := atoms_spec (ws := Cond.code yX7_init cX7_init 1 none :: mm_TB) B.pre
  have htb : ∀ w ∈ mm_TB, w.before [.ref h0].toArray s = true := fun w hw => hts w (List.mem_cons_of_mem _ hw)
  have hown : s.vm.findClass RX7 = some m.cls := findClass_of_methodNamed B.named
  have hlocks := B.notSynchronized
  have hin : meth.name = "<init>" := (name_of_methodNamed B.named B.method).1
  subst hsz
  have hD := hD0.self (sz := s.heap.size)
  generalize hAe : va_A [(h0, .inr (7, [.int 0, .int 0, .null, .null, .null, .int 0, .int 0, .null, .null, .int 0, .int 0, .int 0, .null, .int 0, .null, .null, .null, .int 0, .int 0, .int 0, .int 0, .null, .null, .null, .null, .int 0, .null, .null]))] s.heap.size = A at hD ⊢
  have hA : ∀ q : Nat, s.heap.size ≤ q → A q := fun q h => by rw [← hAe]; exact Or.inr h
  have hS : va_S A s.heap s.heap [] := va_S.rf
  have hl := lv_entry ([.ref h0]) (n := 1) (Nat.le_of_ble_eq_true rfl)
  rw [lg_entry_eq]
  generalize (lg_sl ([.ref h0]) ++ List.replicate (1 - (lg_sl ([.ref h0])).length) Slot.unset).toArray = ls at hl ⊢
  have hl : lv_has ls 1 [(0, .ref h0)] := hl
  refine lv_aload_n hx hb di_7_0 rfl (lv_at hl 0 rfl) ?_
  refine W.objInit hx hb hown (htb _ wo_7) (htb _ wo_inst) (htb _ wo_code) rfl (by rw [hml]; exact hl.1) rfl di_7_1 (Nat.le_of_ble_eq_true rfl) (Nat.le_of_ble_eq_true rfl) ?_
  refine W.eq (g2 := F0 m 4 ls []) rfl ?_
  refine lv_aload_n hx hb di_7_4 rfl (lv_at hl 0 rfl) ?_
  refine lv_iconst (v := 4) hx hb di_7_5 (by decide) ?_
  refine va_newa (atype := .int) (ty := .int) (a0 := (4, .inl (fun _ => 0))) hx hb (htb _ wa_int) rfl hK hP hD hS hA (fun _ => rfl) (by decide) rfl (by decide) (Nat.le_of_ble_eq_true rfl) (Nat.le_of_ble_eq_true rfl) di_7_6 (fun q1 cA2 H hK hP hD hS => ?_)
  have hP : va_P D mm_K [(h0, .inr (7, [.int 0, .int 0, .null, .null, .null, .int 0, .int 0, .null, .null, .int 0, .int 0, .int 0, .null, .int 0, .null, .null, .null, .int 0, .int 0, .int 0, .int 0, .null, .null, .null, .null, .int 0, .null, .null])), (q1, .inl (cA2, 4, .inl (fun _ => 0)))] H := hP
  have hD : va_D A [(h0, .inr (7, [.int 0, .int 0, .null, .null, .null, .int 0, .int 0, .null, .null, .int 0, .int 0, .int 0, .null, .int 0, .null, .null, .null, .int 0, .int 0, .int 0, .int 0, .null, .null, .null, .null, .int 0, .null, .null])), (q1, .inl (cA2, 4, .inl (fun _ => 0)))] := hD
  have hK : va_K D mm_K [(cA2, .int)] s := hK
  refine lv_dup hx hb di_7_8 rfl ?_
  refine lv_iconst (v := 0) hx hb di_7_9 (by decide) ?_
  refine lv_bipush (v := (-9)) hx hb di_7_10 (by decide) ?_
  refine va_iast (D := D) (x := (-9 : Int32)) hx hb hK hP hD hS 1 0 rfl rfl (i := (0 : Int32)) (by unfold vp_in; decide) di_7_12 (fun H locs hP hD hS => ?_)
  have hP : va_P D mm_K [(h0, .inr (7, [.int 0, .int 0, .null, .null, .null, .int 0, .int 0, .null, .null, .int 0, .int 0, .int 0, .null, .int 0, .null, .null, .null, .int 0, .int 0, .int 0, .int 0, .null, .null, .null, .null, .int 0, .null, .null])), (q1, .inl (cA2, 4, .inl (upd (fun _ => 0) 0 (-9 : Int32))))] H := hP
  have hD : va_D A [(h0, .inr (7, [.int 0, .int 0, .null, .null, .null, .int 0, .int 0, .null, .null, .int 0, .int 0, .int 0, .null, .int 0, .null, .null, .null, .int 0, .int 0, .int 0, .int 0, .null, .null, .null, .null, .int 0, .null, .null])), (q1, .inl (cA2, 4, .inl (upd (fun _ => 0) 0 (-9 : Int32))))] := hD
  refine lv_dup hx hb di_7_13 rfl ?_
  refine lv_iconst (v := 1) hx hb di_7_14 (by decide) ?_
  refine lv_bipush (v := (-9)) hx hb di_7_15 (by decide) ?_
  refine va_iast (D := D) (x := (-9 : Int32)) hx hb hK hP hD hS 1 0 rfl rfl (i := (1 : Int32)) (by unfold vp_in; decide) di_7_17 (fun H locs hP hD hS => ?_)
  have hP : va_P D mm_K [(h0, .inr (7, [.int 0, .int 0, .null, .null, .null, .int 0, .int 0, .null, .null, .int 0, .int 0, .int 0, .null, .int 0, .null, .null, .null, .int 0, .int 0, .int 0, .int 0, .null, .null, .null, .null, .int 0, .null, .null])), (q1, .inl (cA2, 4, .inl (upd (upd (fun _ => 0) 0 (-9 : Int32)) 1 (-9 : Int32))))] H := hP
  have hD : va_D A [(h0, .inr (7, [.int 0, .int 0, .null, .null, .null, .int 0, .int 0, .null, .null, .int 0, .int 0, .int 0, .null, .int 0, .null, .null, .null, .int 0, .int 0, .int 0, .int 0, .null, .null, .null, .null, .int 0, .null, .null])), (q1, .inl (cA2, 4, .inl (upd (upd (fun _ => 0) 0 (-9 : Int32)) 1 (-9 : Int32))))] := hD
  refine lv_dup hx hb di_7_18 rfl ?_
  refine lv_iconst (v := 2) hx hb di_7_19 (by decide) ?_
  refine lv_bipush (v := (-9)) hx hb di_7_20 (by decide) ?_
  refine va_iast (D := D) (x := (-9 : Int32)) hx hb hK hP hD hS 1 0 rfl rfl (i := (2 : Int32)) (by unfold vp_in; decide) di_7_22 (fun H locs hP hD hS => ?_)
  have hP : va_P D mm_K [(h0, .inr (7, [.int 0, .int 0, .null, .null, .null, .int 0, .int 0, .null, .null, .int 0, .int 0, .int 0, .null, .int 0, .null, .null, .null, .int 0, .int 0, .int 0, .int 0, .null, .null, .null, .null, .int 0, .null, .null])), (q1, .inl (cA2, 4, .inl (upd (upd (upd (fun _ => 0) 0 (-9 : Int32)) 1 (-9 : Int32)) 2 (-9 : Int32))))] H := hP
  have hD : va_D A [(h0, .inr (7, [.int 0, .int 0, .null, .null, .null, .int 0, .int 0, .null, .null, .int 0, .int 0, .int 0, .null, .int 0, .null, .null, .null, .int 0, .int 0, .int 0, .int 0, .null, .null, .null, .null, .int 0, .null, .null])), (q1, .inl (cA2, 4, .inl (upd (upd (upd (fun _ => 0) 0 (-9 : Int32)) 1 (-9 : Int32)) 2 (-9 : Int32))))] := hD
  refine lv_dup hx hb di_7_23 rfl ?_
  refine lv_iconst (v := 3) hx hb di_7_24 (by decide) ?_
  refine lv_bipush (v := (-9)) hx hb di_7_25 (by decide) ?_
  refine va_iast (D := D) (x := (-9 : Int32)) hx hb hK hP hD hS 1 0 rfl rfl (i := (3 : Int32)) (by unfold vp_in; decide) di_7_27 (fun H locs hP hD hS => ?_)
  have hP : va_P D mm_K [(h0, .inr (7, [.int 0, .int 0, .null, .null, .null, .int 0, .int 0, .null, .null, .int 0, .int 0, .int 0, .null, .int 0, .null, .null, .null, .int 0, .int 0, .int 0, .int 0, .null, .null, .null, .null, .int 0, .null, .null])), (q1, .inl (cA2, 4, .inl (upd (upd (upd (upd (fun _ => 0) 0 (-9 : Int32)) 1 (-9 : Int32)) 2 (-9 : Int32)) 3 (-9 : Int32))))] H := hP
  have hD : va_D A [(h0, .inr (7, [.int 0, .int 0, .null, .null, .null, .int 0, .int 0, .null, .null, .int 0, .int 0, .int 0, .null, .int 0, .null, .null, .null, .int 0, .int 0, .int 0, .int 0, .null, .null, .null, .null, .int 0, .null, .null])), (q1, .inl (cA2, 4, .inl (upd (upd (upd (upd (fun _ => 0) 0 (-9 : Int32)) 1 (-9 : Int32)) 2 (-9 : Int32)) 3 (-9 : Int32))))] := hD
  refine va_putF (D := D) (ci := 7) (v := .ref q1) (ty := .array .int) (C := RX7) (T := TX7) (N := 28) hx hb htb mu_7 tyX7 tyX7_ok nmX7 hown hK hP hD hS 0 rfl rfl 2 (by decide) (htb _ wf_7_9) (fun _ h9 => h9) rfl hin rfl (by decide +kernel) rfl rfl (Nat.le_of_ble_eq_true rfl) di_7_28 (fun H locs hP hD hS => ?_)
  have hP : va_P D mm_K [(h0, .inr (7, [.int 0, .int 0, .ref q1, .null, .null, .int 0, .int 0, .null, .null, .int 0, .int 0, .int 0, .null, .int 0, .null, .null, .null, .int 0, .int 0, .int 0, .int 0, .null, .null, .null, .null, .int 0, .null, .null])), (q1, .inl (cA2, 4, .inl (upd (upd (upd (upd (fun _ => 0) 0 (-9 : Int32)) 1 (-9 : Int32)) 2 (-9 : Int32)) 3 (-9 : Int32))))] H := hP
  have hD : va_D A [(h0, .inr (7, [.int 0, .int 0, .ref q1, .null, .null, .int 0, .int 0, .null, .null, .int 0, .int 0, .int 0, .null, .int 0, .null, .null, .null, .int 0, .int 0, .int 0, .int 0, .null, .null, .null, .null, .int 0, .null, .null])), (q1, .inl (cA2, 4, .inl (upd (upd (upd (upd (fun _ => 0) 0 (-9 : Int32)) 1 (-9 : Int32)) 2 (-9 : Int32)) 3 (-9 : Int32))))] := hD
  refine lv_aload_n hx hb di_7_31 rfl (lv_at hl 0 rfl) ?_
  refine lv_iconst (v := 4) hx hb di_7_32 (by decide) ?_
  refine va_newa (atype := .int) (ty := .int) (a0 := (4, .inl (fun _ => 0))) hx hb (htb _ wa_int) rfl hK hP hD hS hA (fun _ => rfl) (by decide) rfl (by decide) (Nat.le_of_ble_eq_true rfl) (Nat.le_of_ble_eq_true rfl) di_7_33 (fun q3 cA4 H hK hP hD hS => ?_)
  have hP : va_P D mm_K [(h0, .inr (7, [.int 0, .int 0, .ref q1, .null, .null, .int 0, .int 0, .null, .null, .int 0, .int 0, .int 0, .null, .int 0, .null, .null, .null, .int 0, .int 0, .int 0, .int 0, .null, .null, .null, .null, .int 0, .null, .null])), (q1, .inl (cA2, 4, .inl (upd (upd (upd (upd (fun _ => 0) 0 (-9 : Int32)) 1 (-9 : Int32)) 2 (-9 : Int32)) 3 (-9 : Int32)))), (q3, .inl (cA4, 4, .inl (fun _ => 0)))] H := hP
  have hD : va_D A [(h0, .inr (7, [.int 0, .int 0, .ref q1, .null, .null, .int 0, .int 0, .null, .null, .int 0, .int 0, .int 0, .null, .int 0, .null, .null, .null, .int 0, .int 0, .int 0, .int 0, .null, .null, .null, .null, .int 0, .null, .null])), (q1, .inl (cA2, 4, .inl (upd (upd (upd (upd (fun _ => 0) 0 (-9 : Int32)) 1 (-9 : Int32)) 2 (-9 : Int32)) 3 (-9 : Int32)))), (q3, .inl (cA4, 4, .inl (fun _ => 0)))] := hD
  have hK : va_K D mm_K [(cA2, .int), (cA4, .int)] s := hK
  refine va_putF (D := D) (ci := 7) (v := .ref q3) (ty := .array .int) (C := RX7) (T := TX7) (N := 28) hx hb htb mu_7 tyX7 tyX7_ok nmX7 hown hK hP hD hS 0 rfl rfl 3 (by decide) (htb _ wf_7_13) (fun _ h9 => h9) rfl hin rfl (by decide +kernel) rfl rfl (Nat.le_of_ble_eq_true rfl) di_7_35 (fun H locs hP hD hS => ?_)
  have hP : va_P D mm_K [(h0, .inr (7, [.int 0, .int 0, .ref q1, .ref q3, .null, .int 0, .int 0, .null, .null, .int 0, .int 0, .int 0, .null, .int 0, .null, .null, .null, .int 0, .int 0, .int 0, .int 0, .null, .null, .null, .null, .int 0, .null, .null])), (q1, .inl (cA2, 4, .inl (upd (upd (upd (upd (fun _ => 0) 0 (-9 : Int32)) 1 (-9 : Int32)) 2 (-9 : Int32)) 3 (-9 : Int32)))), (q3, .inl (cA4, 4, .inl (fun _ => 0)))] H := hP
  have hD : va_D A [(h0, .inr (7, [.int 0, .int 0, .ref q1, .ref q3, .null, .int 0, .int 0, .null, .null, .int 0, .int 0, .int 0, .null, .int 0, .null, .null, .null, .int 0, .int 0, .int 0, .int 0, .null, .null, .null, .null, .int 0, .null, .null])), (q1, .inl (cA2, 4, .inl (upd (upd (upd (upd (fun _ => 0) 0 (-9 : Int32)) 1 (-9 : Int32)) 2 (-9 : Int32)) 3 (-9 : Int32)))), (q3, .inl (cA4, 4, .inl (fun _ => 0)))] := hD
  refine lv_aload_n hx hb di_7_38 rfl (lv_at hl 0 rfl) ?_
  refine lv_sipush (v := 240) hx hb di_7_39 (by decide) ?_
  refine va_newa (atype := .int) (ty := .int) (a0 := (240, .inl (fun _ => 0))) hx hb (htb _ wa_int) rfl hK hP hD hS hA (fun _ => rfl) (by decide) rfl (by decide) (Nat.le_of_ble_eq_true rfl) (Nat.le_of_ble_eq_true rfl) di_7_42 (fun q5 cA6 H hK hP hD hS => ?_)
  have hP : va_P D mm_K [(h0, .inr (7, [.int 0, .int 0, .ref q1, .ref q3, .null, .int 0, .int 0, .null, .null, .int 0, .int 0, .int 0, .null, .int 0, .null, .null, .null, .int 0, .int 0, .int 0, .int 0, .null, .null, .null, .null, .int 0, .null, .null])), (q1, .inl (cA2, 4, .inl (upd (upd (upd (upd (fun _ => 0) 0 (-9 : Int32)) 1 (-9 : Int32)) 2 (-9 : Int32)) 3 (-9 : Int32)))), (q3, .inl (cA4, 4, .inl (fun _ => 0))), (q5, .inl (cA6, 240, .inl (fun _ => 0)))] H := hP
  have hD : va_D A [(h0, .inr (7, [.int 0, .int 0, .ref q1, .ref q3, .null, .int 0, .int 0, .null, .null, .int 0, .int 0, .int 0, .null, .int 0, .null, .null, .null, .int 0, .int 0, .int 0, .int 0, .null, .null, .null, .null, .int 0, .null, .null])), (q1, .inl (cA2, 4, .inl (upd (upd (upd (upd (fun _ => 0) 0 (-9 : Int32)) 1 (-9 : Int32)) 2 (-9 : Int32)) 3 (-9 : Int32)))), (q3, .inl (cA4, 4, .inl (fun _ => 0))), (q5, .inl (cA6, 240, .inl (fun _ => 0)))] := hD
  have hK : va_K D mm_K [(cA2, .int), (cA4, .int), (cA6, .int)] s := hK
  refine va_putF (D := D) (ci := 7) (v := .ref q5) (ty := .array .int) (C := RX7) (T := TX7) (N := 28) hx hb htb mu_7 tyX7 tyX7_ok nmX7 hown hK hP hD hS 0 rfl rfl 4 (by decide) (htb _ wf_7_16) (fun _ h9 => h9) rfl hin rfl (by decide +kernel) rfl rfl (Nat.le_of_ble_eq_true rfl) di_7_44 (fun H locs hP hD hS => ?_)
  have hP : va_P D mm_K [(h0, .inr (7, [.int 0, .int 0, .ref q1, .ref q3, .ref q5, .int 0, .int 0, .null, .null, .int 0, .int 0, .int 0, .null, .int 0, .null, .null, .null, .int 0, .int 0, .int 0, .int 0, .null, .null, .null, .null, .int 0, .null, .null])), (q1, .inl (cA2, 4, .inl (upd (upd (upd (upd (fun _ => 0) 0 (-9 : Int32)) 1 (-9 : Int32)) 2 (-9 : Int32)) 3 (-9 : Int32)))), (q3, .inl (cA4, 4, .inl (fun _ => 0))), (q5, .inl (cA6, 240, .inl (fun _ => 0)))] H := hP
  have hD : va_D A [(h0, .inr (7, [.int 0, .int 0, .ref q1, .ref q3, .ref q5, .int 0, .int 0, .null, .null, .int 0, .int 0, .int 0, .null, .int 0, .null, .null, .null, .int 0, .int 0, .int 0, .int 0, .null, .null, .null, .null, .int 0, .null, .null])), (q1, .inl (cA2, 4, .inl (upd (upd (upd (upd (fun _ => 0) 0 (-9 : Int32)) 1 (-9 : Int32)) 2 (-9 : Int32)) 3 (-9 : Int32)))), (q3, .inl (cA4, 4, .inl (fun _ => 0))), (q5, .inl (cA6, 240, .inl (fun _ => 0)))] := hD
  refine lv_aload_n hx hb di_7_47 rfl (lv_at hl 0 rfl) ?_
  refine lv_bipush (v := 42) hx hb di_7_48 (by decide) ?_
  refine va_newa (atype := .boolean) (ty := .boolean) (a0 := (42, .inl (fun _ => 0))) hx hb (htb _ wa_boolean) rfl hK hP hD hS hA (fun _ => rfl) (by decide) rfl (by decide) (Nat.le_of_ble_eq_true rfl) (Nat.le_of_ble_eq_true rfl) di_7_50 (fun q7 cA8 H hK hP hD hS => ?_)
  have hP : va_P D mm_K [(h0, .inr (7, [.int 0, .int 0, .ref q1, .ref q3, .ref q5, .int 0, .int 0, .null, .null, .int 0, .int 0, .int 0, .null, .int 0, .null, .null, .null, .int 0, .int 0, .int 0, .int 0, .null, .null, .null, .null, .int 0, .null, .null])), (q1, .inl (cA2, 4, .inl (upd (upd (upd (upd (fun _ => 0) 0 (-9 : Int32)) 1 (-9 : Int32)) 2 (-9 : Int32)) 3 (-9 : Int32)))), (q3, .inl (cA4, 4, .inl (fun _ => 0))), (q5, .inl (cA6, 240, .inl (fun _ => 0))), (q7, .inl (cA8, 42, .inl (fun _ => 0)))] H := hP
  have hD : va_D A [(h0, .inr (7, [.int 0, .int 0, .ref q1, .ref q3, .ref q5, .int 0, .int 0, .null, .null, .int 0, .int 0, .int 0, .null, .int 0, .null, .null, .null, .int 0, .int 0, .int 0, .int 0, .null, .null, .null, .null, .int 0, .null, .null])), (q1, .inl (cA2, 4, .inl (upd (upd (upd (upd (fun _ => 0) 0 (-9 : Int32)) 1 (-9 : Int32)) 2 (-9 : Int32)) 3 (-9 : Int32)))), (q3, .inl (cA4, 4, .inl (fun _ => 0))), (q5, .inl (cA6, 240, .inl (fun _ => 0))), (q7, .inl (cA8, 42, .inl (fun _ => 0)))] := hD
  have hK : va_K D mm_K [(cA2, .int), (cA4, .int), (cA6, .int), (cA8, .boolean)] s := hK
  refine va_putF (D := D) (ci := 7) (v := .ref q7) (ty := .array .boolean) (C := RX7) (T := TX7) (N := 28) hx hb htb mu_7 tyX7 tyX7_ok nmX7 hown hK hP hD hS 0 rfl rfl 7 (by decide) (htb _ wf_7_19) (fun _ h9 => h9) rfl hin rfl (by decide +kernel) rfl rfl (Nat.le_of_ble_eq_true rfl) di_7_52 (fun H locs hP hD hS => ?_)
  have hP : va_P D mm_K [(h0, .inr (7, [.int 0, .int 0, .ref q1, .ref q3, .ref q5, .int 0, .int 0, .ref q7, .null, .int 0, .int 0, .int 0, .null, .int 0, .null, .null, .null, .int 0, .int 0, .int 0, .int 0, .null, .null, .null, .null, .int 0, .null, .null])), (q1, .inl (cA2, 4, .inl (upd (upd (upd (upd (fun _ => 0) 0 (-9 : Int32)) 1 (-9 : Int32)) 2 (-9 : Int32)) 3 (-9 : Int32)))), (q3, .inl (cA4, 4, .inl (fun _ => 0))), (q5, .inl (cA6, 240, .inl (fun _ => 0))), (q7, .inl (cA8, 42, .inl (fun _ => 0)))] H := hP
  have hD : va_D A [(h0, .inr (7, [.int 0, .int 0, .ref q1, .ref q3, .ref q5, .int 0, .int 0, .ref q7, .null, .int 0, .int 0, .int 0, .null, .int 0, .null, .null, .null, .int 0, .int 0, .int 0, .int 0, .null, .null, .null, .null, .int 0, .null, .null])), (q1, .inl (cA2, 4, .inl (upd (upd (upd (upd (fun _ => 0) 0 (-9 : Int32)) 1 (-9 : Int32)) 2 (-9 : Int32)) 3 (-9 : Int32)))), (q3, .inl (cA4, 4, .inl (fun _ => 0))), (q5, .inl (cA6, 240, .inl (fun _ => 0))), (q7, .inl (cA8, 42, .inl (fun _ => 0)))] := hD
  refine lv_aload_n hx hb di_7_55 rfl (lv_at hl 0 rfl) ?_
  refine lv_sipush (v := 1764) hx hb di_7_56 (by decide) ?_
  refine va_newa (atype := .int) (ty := .int) (a0 := (1764, .inl (fun _ => 0))) hx hb (htb _ wa_int) rfl hK hP hD hS hA (fun _ => rfl) (by decide) rfl (by decide) (Nat.le_of_ble_eq_true rfl) (Nat.le_of_ble_eq_true rfl) di_7_59 (fun q9 cA10 H hK hP hD hS => ?_)
  have hP : va_P D mm_K [(h0, .inr (7, [.int 0, .int 0, .ref q1, .ref q3, .ref q5, .int 0, .int 0, .ref q7, .null, .int 0, .int 0, .int 0, .null, .int 0, .null, .null, .null, .int 0, .int 0, .int 0, .int 0, .null, .null, .null, .null, .int 0, .null, .null])), (q1, .inl (cA2, 4, .inl (upd (upd (upd (upd (fun _ => 0) 0 (-9 : Int32)) 1 (-9 : Int32)) 2 (-9 : Int32)) 3 (-9 : Int32)))), (q3, .inl (cA4, 4, .inl (fun _ => 0))), (q5, .inl (cA6, 240, .inl (fun _ => 0))), (q7, .inl (cA8, 42, .inl (fun _ => 0))), (q9, .inl (cA10, 1764, .inl (fun _ => 0)))] H := hP
  have hD : va_D A [(h0, .inr (7, [.int 0, .int 0, .ref q1, .ref q3, .ref q5, .int 0, .int 0, .ref q7, .null, .int 0, .int 0, .int 0, .null, .int 0, .null, .null, .null, .int 0, .int 0, .int 0, .int 0, .null, .null, .null, .null, .int 0, .null, .null])), (q1, .inl (cA2, 4, .inl (upd (upd (upd (upd (fun _ => 0) 0 (-9 : Int32)) 1 (-9 : Int32)) 2 (-9 : Int32)) 3 (-9 : Int32)))), (q3, .inl (cA4, 4, .inl (fun _ => 0))), (q5, .inl (cA6, 240, .inl (fun _ => 0))), (q7, .inl (cA8, 42, .inl (fun _ => 0))), (q9, .inl (cA10, 1764, .inl (fun _ => 0)))] := hD
  have hK : va_K D mm_K [(cA2, .int), (cA4, .int), (cA6, .int), (cA8, .boolean), (cA10, .int)] s := hK
  refine va_putF (D := D) (ci := 7) (v := .ref q9) (ty := .array .int) (C := RX7) (T := TX7) (N := 28) hx hb htb mu_7 tyX7 tyX7_ok nmX7 hown hK hP hD hS 0 rfl rfl 8 (by decide) (htb _ wf_7_23) (fun _ h9 => h9) rfl hin rfl (by decide +kernel) rfl rfl (Nat.le_of_ble_eq_true rfl) di_7_61 (fun H locs hP hD hS => ?_)
  have hP : va_P D mm_K [(h0, .inr (7, [.int 0, .int 0, .ref q1, .ref q3, .ref q5, .int 0, .int 0, .ref q7, .ref q9, .int 0, .int 0, .int 0, .null, .int 0, .null, .null, .null, .int 0, .int 0, .int 0, .int 0, .null, .null, .null, .null, .int 0, .null, .null])), (q1, .inl (cA2, 4, .inl (upd (upd (upd (upd (fun _ => 0) 0 (-9 : Int32)) 1 (-9 : Int32)) 2 (-9 : Int32)) 3 (-9 : Int32)))), (q3, .inl (cA4, 4, .inl (fun _ => 0))), (q5, .inl (cA6, 240, .inl (fun _ => 0))), (q7, .inl (cA8, 42, .inl (fun _ => 0))), (q9, .inl (cA10, 1764, .inl (fun _ => 0)))] H := hP
  have hD : va_D A [(h0, .inr (7, [.int 0, .int 0, .ref q1, .ref q3, .ref q5, .int 0, .int 0, .ref q7, .ref q9, .int 0, .int 0, .int 0, .null, .int 0, .null, .null, .null, .int 0, .int 0, .int 0, .int 0, .null, .null, .null, .null, .int 0, .null, .null])), (q1, .inl (cA2, 4, .inl (upd (upd (upd (upd (fun _ => 0) 0 (-9 : Int32)) 1 (-9 : Int32)) 2 (-9 : Int32)) 3 (-9 : Int32)))), (q3, .inl (cA4, 4, .inl (fun _ => 0))), (q5, .inl (cA6, 240, .inl (fun _ => 0))), (q7, .inl (cA8, 42, .inl (fun _ => 0))), (q9, .inl (cA10, 1764, .inl (fun _ => 0)))] := hD
  refine lv_aload_n hx hb di_7_64 rfl (lv_at hl 0 rfl) ?_
  refine lv_bipush (v := 42) hx hb di_7_65 (by decide) ?_
  refine va_newa (atype := .boolean) (ty := .boolean) (a0 := (42, .inl (fun _ => 0))) hx hb (htb _ wa_boolean) rfl hK hP hD hS hA (fun _ => rfl) (by decide) rfl (by decide) (Nat.le_of_ble_eq_true rfl) (Nat.le_of_ble_eq_true rfl) di_7_67 (fun q11 cA12 H hK hP hD hS => ?_)
  have hP : va_P D mm_K [(h0, .inr (7, [.int 0, .int 0, .ref q1, .ref q3, .ref q5, .int 0, .int 0, .ref q7, .ref q9, .int 0, .int 0, .int 0, .null, .int 0, .null, .null, .null, .int 0, .int 0, .int 0, .int 0, .null, .null, .null, .null, .int 0, .null, .null])), (q1, .inl (cA2, 4, .inl (upd (upd (upd (upd (fun _ => 0) 0 (-9 : Int32)) 1 (-9 : Int32)) 2 (-9 : Int32)) 3 (-9 : Int32)))), (q3, .inl (cA4, 4, .inl (fun _ => 0))), (q5, .inl (cA6, 240, .inl (fun _ => 0))), (q7, .inl (cA8, 42, .inl (fun _ => 0))), (q9, .inl (cA10, 1764, .inl (fun _ => 0))), (q11, .inl (cA12, 42, .inl (fun _ => 0)))] H := hP
  have hD : va_D A [(h0, .inr (7, [.int 0, .int 0, .ref q1, .ref q3, .ref q5, .int 0, .int 0, .ref q7, .ref q9, .int 0, .int 0, .int 0, .null, .int 0, .null, .null, .null, .int 0, .int 0, .int 0, .int 0, .null, .null, .null, .null, .int 0, .null, .null])), (q1, .inl (cA2, 4, .inl (upd (upd (upd (upd (fun _ => 0) 0 (-9 : Int32)) 1 (-9 : Int32)) 2 (-9 : Int32)) 3 (-9 : Int32)))), (q3, .inl (cA4, 4, .inl (fun _ => 0))), (q5, .inl (cA6, 240, .inl (fun _ => 0))), (q7, .inl (cA8, 42, .inl (fun _ => 0))), (q9, .inl (cA10, 1764, .inl (fun _ => 0))), (q11, .inl (cA12, 42, .inl (fun _ => 0)))] := hD
  have hK : va_K D mm_K [(cA2, .int), (cA4, .int), (cA6, .int), (cA8, .boolean), (cA10, .int), (cA12, .boolean)] s := hK
  refine va_putF (D := D) (ci := 7) (v := .ref q11) (ty := .array .boolean) (C := RX7) (T := TX7) (N := 28) hx hb htb mu_7 tyX7 tyX7_ok nmX7 hown hK hP hD hS 0 rfl rfl 12 (by decide) (htb _ wf_7_26) (fun _ h9 => h9) rfl hin rfl (by decide +kernel) rfl rfl (Nat.le_of_ble_eq_true rfl) di_7_69 (fun H locs hP hD hS => ?_)
  have hP : va_P D mm_K [(h0, .inr (7, [.int 0, .int 0, .ref q1, .ref q3, .ref q5, .int 0, .int 0, .ref q7, .ref q9, .int 0, .int 0, .int 0, .ref q11, .int 0, .null, .null, .null, .int 0, .int 0, .int 0, .int 0, .null, .null, .null, .null, .int 0, .null, .null])), (q1, .inl (cA2, 4, .inl (upd (upd (upd (upd (fun _ => 0) 0 (-9 : Int32)) 1 (-9 : Int32)) 2 (-9 : Int32)) 3 (-9 : Int32)))), (q3, .inl (cA4, 4, .inl (fun _ => 0))), (q5, .inl (cA6, 240, .inl (fun _ => 0))), (q7, .inl (cA8, 42, .inl (fun _ => 0))), (q9, .inl (cA10, 1764, .inl (fun _ => 0))), (q11, .inl (cA12, 42, .inl (fun _ => 0)))] H := hP
  have hD : va_D A [(h0, .inr (7, [.int 0, .int 0, .ref q1, .ref q3, .ref q5, .int 0, .int 0, .ref q7, .ref q9, .int 0, .int 0, .int 0, .ref q11, .int 0, .null, .null, .null, .int 0, .int 0, .int 0, .int 0, .null, .null, .null, .null, .int 0, .null, .null])), (q1, .inl (cA2, 4, .inl (upd (upd (upd (upd (fun _ => 0) 0 (-9 : Int32)) 1 (-9 : Int32)) 2 (-9 : Int32)) 3 (-9 : Int32)))), (q3, .inl (cA4, 4, .inl (fun _ => 0))), (q5, .inl (cA6, 240, .inl (fun _ => 0))), (q7, .inl (cA8, 42, .inl (fun _ => 0))), (q9, .inl (cA10, 1764, .inl (fun _ => 0))), (q11, .inl (cA12, 42, .inl (fun _ => 0)))] := hD
  refine lv_aload_n hx hb di_7_72 rfl (lv_at hl 0 rfl) ?_
  refine lv_bipush (v := 8) hx hb di_7_73 (by decide) ?_
  refine va_newa (atype := .int) (ty := .int) (a0 := (8, .inl (fun _ => 0))) hx hb (htb _ wa_int) rfl hK hP hD hS hA (fun _ => rfl) (by decide) rfl (by decide) (Nat.le_of_ble_eq_true rfl) (Nat.le_of_ble_eq_true rfl) di_7_75 (fun q13 cA14 H hK hP hD hS => ?_)
  have hP : va_P D mm_K [(h0, .inr (7, [.int 0, .int 0, .ref q1, .ref q3, .ref q5, .int 0, .int 0, .ref q7, .ref q9, .int 0, .int 0, .int 0, .ref q11, .int 0, .null, .null, .null, .int 0, .int 0, .int 0, .int 0, .null, .null, .null, .null, .int 0, .null, .null])), (q1, .inl (cA2, 4, .inl (upd (upd (upd (upd (fun _ => 0) 0 (-9 : Int32)) 1 (-9 : Int32)) 2 (-9 : Int32)) 3 (-9 : Int32)))), (q3, .inl (cA4, 4, .inl (fun _ => 0))), (q5, .inl (cA6, 240, .inl (fun _ => 0))), (q7, .inl (cA8, 42, .inl (fun _ => 0))), (q9, .inl (cA10, 1764, .inl (fun _ => 0))), (q11, .inl (cA12, 42, .inl (fun _ => 0))), (q13, .inl (cA14, 8, .inl (fun _ => 0)))] H := hP
  have hD : va_D A [(h0, .inr (7, [.int 0, .int 0, .ref q1, .ref q3, .ref q5, .int 0, .int 0, .ref q7, .ref q9, .int 0, .int 0, .int 0, .ref q11, .int 0, .null, .null, .null, .int 0, .int 0, .int 0, .int 0, .null, .null, .null, .null, .int 0, .null, .null])), (q1, .inl (cA2, 4, .inl (upd (upd (upd (upd (fun _ => 0) 0 (-9 : Int32)) 1 (-9 : Int32)) 2 (-9 : Int32)) 3 (-9 : Int32)))), (q3, .inl (cA4, 4, .inl (fun _ => 0))), (q5, .inl (cA6, 240, .inl (fun _ => 0))), (q7, .inl (cA8, 42, .inl (fun _ => 0))), (q9, .inl (cA10, 1764, .inl (fun _ => 0))), (q11, .inl (cA12, 42, .inl (fun _ => 0))), (q13, .inl (cA14, 8, .inl (fun _ => 0)))] := hD
  have hK : va_K D mm_K [(cA2, .int), (cA4, .int), (cA6, .int), (cA8, .boolean), (cA10, .int), (cA12, .boolean), (cA14, .int)] s := hK
  refine va_putF (D := D) (ci := 7) (v := .ref q13) (ty := .array .int) (C := RX7) (T := TX7) (N := 28) hx hb htb mu_7 tyX7 tyX7_ok nmX7 hown hK hP hD hS 0 rfl rfl 14 (by decide) (htb _ wf_7_29) (fun _ h9 => h9) rfl hin rfl (by decide +kernel) rfl rfl (Nat.le_of_ble_eq_true rfl) di_7_77 (fun H locs hP hD hS => ?_)
  have hP : va_P D mm_K [(h0, .inr (7, [.int 0, .int 0, .ref q1, .ref q3, .ref q5, .int 0, .int 0, .ref q7, .ref q9, .int 0, .int 0, .int 0, .ref q11, .int 0, .ref q13, .null, .null, .int 0, .int 0, .int 0, .int 0, .null, .null, .null, .null, .int 0, .null, .null])), (q1, .inl (cA2, 4, .inl (upd (upd (upd (upd (fun _ => 0) 0 (-9 : Int32)) 1 (-9 : Int32)) 2 (-9 : Int32)) 3 (-9 : Int32)))), (q3, .inl (cA4, 4, .inl (fun _ => 0))), (q5, .inl (cA6, 240, .inl (fun _ => 0))), (q7, .inl (cA8, 42, .inl (fun _ => 0))), (q9, .inl (cA10, 1764, .inl (fun _ => 0))), (q11, .inl (cA12, 42, .inl (fun _ => 0))), (q13, .inl (cA14, 8, .inl (fun _ => 0)))] H := hP
  have hD : va_D A [(h0, .inr (7, [.int 0, .int 0, .ref q1, .ref q3, .ref q5, .int 0, .int 0, .ref q7, .ref q9, .int 0, .int 0, .int 0, .ref q11, .int 0, .ref q13, .null, .null, .int 0, .int 0, .int 0, .int 0, .null, .null, .null, .null, .int 0, .null, .null])), (q1, .inl (cA2, 4, .inl (upd (upd (upd (upd (fun _ => 0) 0 (-9 : Int32)) 1 (-9 : Int32)) 2 (-9 : Int32)) 3 (-9 : Int32)))), (q3, .inl (cA4, 4, .inl (fun _ => 0))), (q5, .inl (cA6, 240, .inl (fun _ => 0))), (q7, .inl (cA8, 42, .inl (fun _ => 0))), (q9, .inl (cA10, 1764, .inl (fun _ => 0))), (q11, .inl (cA12, 42, .inl (fun _ => 0))), (q13, .inl (cA14, 8, .inl (fun _ => 0)))] := hD
  refine lv_aload_n hx hb di_7_80 rfl (lv_at hl 0 rfl) ?_
  refine lv_bipush (v := 8) hx hb di_7_81 (by decide) ?_
  refine va_newa (atype := .int) (ty := .int) (a0 := (8, .inl (fun _ => 0))) hx hb (htb _ wa_int) rfl hK hP hD hS hA (fun _ => rfl) (by decide) rfl (by decide) (Nat.le_of_ble_eq_true rfl) (Nat.le_of_ble_eq_true rfl) di_7_83 (fun q15 cA16 H hK hP hD hS => ?_)
  have hP : va_P D mm_K [(h0, .inr (7, [.int 0, .int 0, .ref q1, .ref q3, .ref q5, .int 0, .int 0, .ref q7, .ref q9, .int 0, .int 0, .int 0, .ref q11, .int 0, .ref q13, .null, .null, .int 0, .int 0, .int 0, .int 0, .null, .null, .null, .null, .int 0, .null, .null])), (q1, .inl (cA2, 4, .inl (upd (upd (upd (upd (fun _ => 0) 0 (-9 : Int32)) 1 (-9 : Int32)) 2 (-9 : Int32)) 3 (-9 : Int32)))), (q3, .inl (cA4, 4, .inl (fun _ => 0))), (q5, .inl (cA6, 240, .inl (fun _ => 0))), (q7, .inl (cA8, 42, .inl (fun _ => 0))), (q9, .inl (cA10, 1764, .inl (fun _ => 0))), (q11, .inl (cA12, 42, .inl (fun _ => 0))), (q13, .inl (cA14, 8, .inl (fun _ => 0))), (q15, .inl (cA16, 8, .inl (fun _ => 0)))] H := hP
  have hD : va_D A [(h0, .inr (7, [.int 0, .int 0, .ref q1, .ref q3, .ref q5, .int 0, .int 0, .ref q7, .ref q9, .int 0, .int 0, .int 0, .ref q11, .int 0, .ref q13, .null, .null, .int 0, .int 0, .int 0, .int 0, .null, .null, .null, .null, .int 0, .null, .null])), (q1, .inl (cA2, 4, .inl (upd (upd (upd (upd (fun _ => 0) 0 (-9 : Int32)) 1 (-9 : Int32)) 2 (-9 : Int32)) 3 (-9 : Int32)))), (q3, .inl (cA4, 4, .inl (fun _ => 0))), (q5, .inl (cA6, 240, .inl (fun _ => 0))), (q7, .inl (cA8, 42, .inl (fun _ => 0))), (q9, .inl (cA10, 1764, .inl (fun _ => 0))), (q11, .inl (cA12, 42, .inl (fun _ => 0))), (q13, .inl (cA14, 8, .inl (fun _ => 0))), (q15, .inl (cA16, 8, .inl (fun _ => 0)))] := hD
  have hK : va_K D mm_K [(cA2, .int), (cA4, .int), (cA6, .int), (cA8, .boolean), (cA10, .int), (cA12, .boolean), (cA14, .int), (cA16, .int)] s := hK
  refine va_putF (D := D) (ci := 7) (v := .ref q15) (ty := .array .int) (C := RX7) (T := TX7) (N := 28) hx hb htb mu_7 tyX7 tyX7_ok nmX7 hown hK hP hD hS 0 rfl rfl 15 (by decide) (htb _ wf_7_32) (fun _ h9 => h9) rfl hin rfl (by decide +kernel) rfl rfl (Nat.le_of_ble_eq_true rfl) di_7_85 (fun H locs hP hD hS => ?_)
  have hP : va_P D mm_K [(h0, .inr (7, [.int 0, .int 0, .ref q1, .ref q3, .ref q5, .int 0, .int 0, .ref q7, .ref q9, .int 0, .int 0, .int 0, .ref q11, .int 0, .ref q13, .ref q15, .null, .int 0, .int 0, .int 0, .int 0, .null, .null, .null, .null, .int 0, .null, .null])), (q1, .inl (cA2, 4, .inl (upd (upd (upd (upd (fun _ => 0) 0 (-9 : Int32)) 1 (-9 : Int32)) 2 (-9 : Int32)) 3 (-9 : Int32)))), (q3, .inl (cA4, 4, .inl (fun _ => 0))), (q5, .inl (cA6, 240, .inl (fun _ => 0))), (q7, .inl (cA8, 42, .inl (fun _ => 0))), (q9, .inl (cA10, 1764, .inl (fun _ => 0))), (q11, .inl (cA12, 42, .inl (fun _ => 0))), (q13, .inl (cA14, 8, .inl (fun _ => 0))), (q15, .inl (cA16, 8, .inl (fun _ => 0)))] H := hP
  have hD : va_D A [(h0, .inr (7, [.int 0, .int 0, .ref q1, .ref q3, .ref q5, .int 0, .int 0, .ref q7, .ref q9, .int 0, .int 0, .int 0, .ref q11, .int 0, .ref q13, .ref q15, .null, .int 0, .int 0, .int 0, .int 0, .null, .null, .null, .null, .int 0, .null, .null])), (q1, .inl (cA2, 4, .inl (upd (upd (upd (upd (fun _ => 0) 0 (-9 : Int32)) 1 (-9 : Int32)) 2 (-9 : Int32)) 3 (-9 : Int32)))), (q3, .inl (cA4, 4, .inl (fun _ => 0))), (q5, .inl (cA6, 240, .inl (fun _ => 0))), (q7, .inl (cA8, 42, .inl (fun _ => 0))), (q9, .inl (cA10, 1764, .inl (fun _ => 0))), (q11, .inl (cA12, 42, .inl (fun _ => 0))), (q13, .inl (cA14, 8, .inl (fun _ => 0))), (q15, .inl (cA16, 8, .inl (fun _ => 0)))] := hD
  refine lv_aload_n hx hb di_7_88 rfl (lv_at hl 0 rfl) ?_
  refine lv_bipush (v := 8) hx hb di_7_89 (by decide) ?_
  refine va_newa (atype := .int) (ty := .int) (a0 := (8, .inl (fun _ => 0))) hx hb (htb _ wa_int) rfl hK hP hD hS hA (fun _ => rfl) (by decide) rfl (by decide) (Nat.le_of_ble_eq_true rfl) (Nat.le_of_ble_eq_true rfl) di_7_91 (fun q17 cA18 H hK hP hD hS => ?_)
  have hP : va_P D mm_K [(h0, .inr (7, [.int 0, .int 0, .ref q1, .ref q3, .ref q5, .int 0, .int 0, .ref q7, .ref q9, .int 0, .int 0, .int 0, .ref q11, .int 0, .ref q13, .ref q15, .null, .int 0, .int 0, .int 0, .int 0, .null, .null, .null, .null, .int 0, .null, .null])), (q1, .inl (cA2, 4, .inl (upd (upd (upd (upd (fun _ => 0) 0 (-9 : Int32)) 1 (-9 : Int32)) 2 (-9 : Int32)) 3 (-9 : Int32)))), (q3, .inl (cA4, 4, .inl (fun _ => 0))), (q5, .inl (cA6, 240, .inl (fun _ => 0))), (q7, .inl (cA8, 42, .inl (fun _ => 0))), (q9, .inl (cA10, 1764, .inl (fun _ => 0))), (q11, .inl (cA12, 42, .inl (fun _ => 0))), (q13, .inl (cA14, 8, .inl (fun _ => 0))), (q15, .inl (cA16, 8, .inl (fun _ => 0))), (q17, .inl (cA18, 8, .inl (fun _ => 0)))] H := hP
  have hD : va_D A [(h0, .inr (7, [.int 0, .int 0, .ref q1, .ref q3, .ref q5, .int 0, .int 0, .ref q7, .ref q9, .int 0, .int 0, .int 0, .ref q11, .int 0, .ref q13, .ref q15, .null, .int 0, .int 0, .int 0, .int 0, .null, .null, .null, .null, .int 0, .null, .null])), (q1, .inl (cA2, 4, .inl (upd (upd (upd (upd (fun _ => 0) 0 (-9 : Int32)) 1 (-9 : Int32)) 2 (-9 : Int32)) 3 (-9 : Int32)))), (q3, .inl (cA4, 4, .inl (fun _ => 0))), (q5, .inl (cA6, 240, .inl (fun _ => 0))), (q7, .inl (cA8, 42, .inl (fun _ => 0))), (q9, .inl (cA10, 1764, .inl (fun _ => 0))), (q11, .inl (cA12, 42, .inl (fun _ => 0))), (q13, .inl (cA14, 8, .inl (fun _ => 0))), (q15, .inl (cA16, 8, .inl (fun _ => 0))), (q17, .inl (cA18, 8, .inl (fun _ => 0)))] := hD
  have hK : va_K D mm_K [(cA2, .int), (cA4, .int), (cA6, .int), (cA8, .boolean), (cA10, .int), (cA12, .boolean), (cA14, .int), (cA16, .int), (cA18, .int)] s := hK
  refine va_putF (D := D) (ci := 7) (v := .ref q17) (ty := .array .int) (C := RX7) (T := TX7) (N := 28) hx hb htb mu_7 tyX7 tyX7_ok nmX7 hown hK hP hD hS 0 rfl rfl 16 (by decide) (htb _ wf_7_35) (fun _ h9 => h9) rfl hin rfl (by decide +kernel) rfl rfl (Nat.le_of_ble_eq_true rfl) di_7_93 (fun H locs hP hD hS => ?_)
  have hP : va_P D mm_K [(h0, .inr (7, [.int 0, .int 0, .ref q1, .ref q3, .ref q5, .int 0, .int 0, .ref q7, .ref q9, .int 0, .int 0, .int 0, .ref q11, .int 0, .ref q13, .ref q15, .ref q17, .int 0, .int 0, .int 0, .int 0, .null, .null, .null, .null, .int 0, .null, .null])), (q1, .inl (cA2, 4, .inl (upd (upd (upd (upd (fun _ => 0) 0 (-9 : Int32)) 1 (-9 : Int32)) 2 (-9 : Int32)) 3 (-9 : Int32)))), (q3, .inl (cA4, 4, .inl (fun _ => 0))), (q5, .inl (cA6, 240, .inl (fun _ => 0))), (q7, .inl (cA8, 42, .inl (fun _ => 0))), (q9, .inl (cA10, 1764, .inl (fun _ => 0))), (q11, .inl (cA12, 42, .inl (fun _ => 0))), (q13, .inl (cA14, 8, .inl (fun _ => 0))), (q15, .inl (cA16, 8, .inl (fun _ => 0))), (q17, .inl (cA18, 8, .inl (fun _ => 0)))] H := hP
  have hD : va_D A [(h0, .inr (7, [.int 0, .int 0, .ref q1, .ref q3, .ref q5, .int 0, .int 0, .ref q7, .ref q9, .int 0, .int 0, .int 0, .ref q11, .int 0, .ref q13, .ref q15, .ref q17, .int 0, .int 0, .int 0, .int 0, .null, .null, .null, .null, .int 0, .null, .null])), (q1, .inl (cA2, 4, .inl (upd (upd (upd (upd (fun _ => 0) 0 (-9 : Int32)) 1 (-9 : Int32)) 2 (-9 : Int32)) 3 (-9 : Int32)))), (q3, .inl (cA4, 4, .inl (fun _ => 0))), (q5, .inl (cA6, 240, .inl (fun _ => 0))), (q7, .inl (cA8, 42, .inl (fun _ => 0))), (q9, .inl (cA10, 1764, .inl (fun _ => 0))), (q11, .inl (cA12, 42, .inl (fun _ => 0))), (q13, .inl (cA14, 8, .inl (fun _ => 0))), (q15, .inl (cA16, 8, .inl (fun _ => 0))), (q17, .inl (cA18, 8, .inl (fun _ => 0)))] := hD
  refine lv_aload_n hx hb di_7_96 rfl (lv_at hl 0 rfl) ?_
  refine lv_bipush (v := 6) hx hb di_7_97 (by decide) ?_
  refine va_newa (atype := .int) (ty := .int) (a0 := (6, .inl (fun _ => 0))) hx hb (htb _ wa_int) rfl hK hP hD hS hA (fun _ => rfl) (by decide) rfl (by decide) (Nat.le_of_ble_eq_true rfl) (Nat.le_of_ble_eq_true rfl) di_7_99 (fun q19 cA20 H hK hP hD hS => ?_)
  have hP : va_P D mm_K [(h0, .inr (7, [.int 0, .int 0, .ref q1, .ref q3, .ref q5, .int 0, .int 0, .ref q7, .ref q9, .int 0, .int 0, .int 0, .ref q11, .int 0, .ref q13, .ref q15, .ref q17, .int 0, .int 0, .int 0, .int 0, .null, .null, .null, .null, .int 0, .null, .null])), (q1, .inl (cA2, 4, .inl (upd (upd (upd (upd (fun _ => 0) 0 (-9 : Int32)) 1 (-9 : Int32)) 2 (-9 : Int32)) 3 (-9 : Int32)))), (q3, .inl (cA4, 4, .inl (fun _ => 0))), (q5, .inl (cA6, 240, .inl (fun _ => 0))), (q7, .inl (cA8, 42, .inl (fun _ => 0))), (q9, .inl (cA10, 1764, .inl (fun _ => 0))), (q11, .inl (cA12, 42, .inl (fun _ => 0))), (q13, .inl (cA14, 8, .inl (fun _ => 0))), (q15, .inl (cA16, 8, .inl (fun _ => 0))), (q17, .inl (cA18, 8, .inl (fun _ => 0))), (q19, .inl (cA20, 6, .inl (fun _ => 0)))] H := hP
  have hD : va_D A [(h0, .inr (7, [.int 0, .int 0, .ref q1, .ref q3, .ref q5, .int 0, .int 0, .ref q7, .ref q9, .int 0, .int 0, .int 0, .ref q11, .int 0, .ref q13, .ref q15, .ref q17, .int 0, .int 0, .int 0, .int 0, .null, .null, .null, .null, .int 0, .null, .null])), (q1, .inl (cA2, 4, .inl (upd (upd (upd (upd (fun _ => 0) 0 (-9 : Int32)) 1 (-9 : Int32)) 2 (-9 : Int32)) 3 (-9 : Int32)))), (q3, .inl (cA4, 4, .inl (fun _ => 0))), (q5, .inl (cA6, 240, .inl (fun _ => 0))), (q7, .inl (cA8, 42, .inl (fun _ => 0))), (q9, .inl (cA10, 1764, .inl (fun _ => 0))), (q11, .inl (cA12, 42, .inl (fun _ => 0))), (q13, .inl (cA14, 8, .inl (fun _ => 0))), (q15, .inl (cA16, 8, .inl (fun _ => 0))), (q17, .inl (cA18, 8, .inl (fun _ => 0))), (q19, .inl (cA20, 6, .inl (fun _ => 0)))] := hD
  have hK : va_K D mm_K [(cA2, .int), (cA4, .int), (cA6, .int), (cA8, .boolean), (cA10, .int), (cA12, .boolean), (cA14, .int), (cA16, .int), (cA18, .int), (cA20, .int)] s := hK
  refine va_putF (D := D) (ci := 7) (v := .ref q19) (ty := .array .int) (C := RX7) (T := TX7) (N := 28) hx hb htb mu_7 tyX7 tyX7_ok nmX7 hown hK hP hD hS 0 rfl rfl 21 (by decide) (htb _ wf_7_38) (fun _ h9 => h9) rfl hin rfl (by decide +kernel) rfl rfl (Nat.le_of_ble_eq_true rfl) di_7_101 (fun H locs hP hD hS => ?_)
  have hP : va_P D mm_K [(h0, .inr (7, [.int 0, .int 0, .ref q1, .ref q3, .ref q5, .int 0, .int 0, .ref q7, .ref q9, .int 0, .int 0, .int 0, .ref q11, .int 0, .ref q13, .ref q15, .ref q17, .int 0, .int 0, .int 0, .int 0, .ref q19, .null, .null, .null, .int 0, .null, .null])), (q1, .inl (cA2, 4, .inl (upd (upd (upd (upd (fun _ => 0) 0 (-9 : Int32)) 1 (-9 : Int32)) 2 (-9 : Int32)) 3 (-9 : Int32)))), (q3, .inl (cA4, 4, .inl (fun _ => 0))), (q5, .inl (cA6, 240, .inl (fun _ => 0))), (q7, .inl (cA8, 42, .inl (fun _ => 0))), (q9, .inl (cA10, 1764, .inl (fun _ => 0))), (q11, .inl (cA12, 42, .inl (fun _ => 0))), (q13, .inl (cA14, 8, .inl (fun _ => 0))), (q15, .inl (cA16, 8, .inl (fun _ => 0))), (q17, .inl (cA18, 8, .inl (fun _ => 0))), (q19, .inl (cA20, 6, .inl (fun _ => 0)))] H := hP
  have hD : va_D A [(h0, .inr (7, [.int 0, .int 0, .ref q1, .ref q3, .ref q5, .int 0, .int 0, .ref q7, .ref q9, .int 0, .int 0, .int 0, .ref q11, .int 0, .ref q13, .ref q15, .ref q17, .int 0, .int 0, .int 0, .int 0, .ref q19, .null, .null, .null, .int 0, .null, .null])), (q1, .inl (cA2, 4, .inl (upd (upd (upd (upd (fun _ => 0) 0 (-9 : Int32)) 1 (-9 : Int32)) 2 (-9 : Int32)) 3 (-9 : Int32)))), (q3, .inl (cA4, 4, .inl (fun _ => 0))), (q5, .inl (cA6, 240, .inl (fun _ => 0))), (q7, .inl (cA8, 42, .inl (fun _ => 0))), (q9, .inl (cA10, 1764, .inl (fun _ => 0))), (q11, .inl (cA12, 42, .inl (fun _ => 0))), (q13, .inl (cA14, 8, .inl (fun _ => 0))), (q15, .inl (cA16, 8, .inl (fun _ => 0))), (q17, .inl (cA18, 8, .inl (fun _ => 0))), (q19, .inl (cA20, 6, .inl (fun _ => 0)))] := hD
  refine lv_aload_n hx hb di_7_104 rfl (lv_at hl 0 rfl) ?_
  refine lv_bipush (v := 6) hx hb di_7_105 (by decide) ?_
  refine va_newa (atype := .int) (ty := .int) (a0 := (6, .inl (fun _ => 0))) hx hb (htb _ wa_int) rfl hK hP hD hS hA (fun _ => rfl) (by decide) rfl (by decide) (Nat.le_of_ble_eq_true rfl) (Nat.le_of_ble_eq_true rfl) di_7_107 (fun q21 cA22 H hK hP hD hS => ?_)
  have hP : va_P D mm_K [(h0, .inr (7, [.int 0, .int 0, .ref q1, .ref q3, .ref q5, .int 0, .int 0, .ref q7, .ref q9, .int 0, .int 0, .int 0, .ref q11, .int 0, .ref q13, .ref q15, .ref q17, .int 0, .int 0, .int 0, .int 0, .ref q19, .null, .null, .null, .int 0, .null, .null])), (q1, .inl (cA2, 4, .inl (upd (upd (upd (upd (fun _ => 0) 0 (-9 : Int32)) 1 (-9 : Int32)) 2 (-9 : Int32)) 3 (-9 : Int32)))), (q3, .inl (cA4, 4, .inl (fun _ => 0))), (q5, .inl (cA6, 240, .inl (fun _ => 0))), (q7, .inl (cA8, 42, .inl (fun _ => 0))), (q9, .inl (cA10, 1764, .inl (fun _ => 0))), (q11, .inl (cA12, 42, .inl (fun _ => 0))), (q13, .inl (cA14, 8, .inl (fun _ => 0))), (q15, .inl (cA16, 8, .inl (fun _ => 0))), (q17, .inl (cA18, 8, .inl (fun _ => 0))), (q19, .inl (cA20, 6, .inl (fun _ => 0))), (q21, .inl (cA22, 6, .inl (fun _ => 0)))] H := hP
  have hD : va_D A [(h0, .inr (7, [.int 0, .int 0, .ref q1, .ref q3, .ref q5, .int 0, .int 0, .ref q7, .ref q9, .int 0, .int 0, .int 0, .ref q11, .int 0, .ref q13, .ref q15, .ref q17, .int 0, .int 0, .int 0, .int 0, .ref q19, .null, .null, .null, .int 0, .null, .null])), (q1, .inl (cA2, 4, .inl (upd (upd (upd (upd (fun _ => 0) 0 (-9 : Int32)) 1 (-9 : Int32)) 2 (-9 : Int32)) 3 (-9 : Int32)))), (q3, .inl (cA4, 4, .inl (fun _ => 0))), (q5, .inl (cA6, 240, .inl (fun _ => 0))), (q7, .inl (cA8, 42, .inl (fun _ => 0))), (q9, .inl (cA10, 1764, .inl (fun _ => 0))), (q11, .inl (cA12, 42, .inl (fun _ => 0))), (q13, .inl (cA14, 8, .inl (fun _ => 0))), (q15, .inl (cA16, 8, .inl (fun _ => 0))), (q17, .inl (cA18, 8, .inl (fun _ => 0))), (q19, .inl (cA20, 6, .inl (fun _ => 0))), (q21, .inl (cA22, 6, .inl (fun _ => 0)))] := hD
  have hK : va_K D mm_K [(cA2, .int), (cA4, .int), (cA6, .int), (cA8, .boolean), (cA10, .int), (cA12, .boolean), (cA14, .int), (cA16, .int), (cA18, .int), (cA20, .int), (cA22, .int)] s := hK
  refine va_putF (D := D) (ci := 7) (v := .ref q21) (ty := .array .int) (C := RX7) (T := TX7) (N := 28) hx hb htb mu_7 tyX7 tyX7_ok nmX7 hown hK hP hD hS 0 rfl rfl 22 (by decide) (htb _ wf_7_41) (fun _ h9 => h9) rfl hin rfl (by decide +kernel) rfl rfl (Nat.le_of_ble_eq_true rfl) di_7_109 (fun H locs hP hD hS => ?_)
  have hP : va_P D mm_K [(h0, .inr (7, [.int 0, .int 0, .ref q1, .ref q3, .ref q5, .int 0, .int 0, .ref q7, .ref q9, .int 0, .int 0, .int 0, .ref q11, .int 0, .ref q13, .ref q15, .ref q17, .int 0, .int 0, .int 0, .int 0, .ref q19, .ref q21, .null, .null, .int 0, .null, .null])), (q1, .inl (cA2, 4, .inl (upd (upd (upd (upd (fun _ => 0) 0 (-9 : Int32)) 1 (-9 : Int32)) 2 (-9 : Int32)) 3 (-9 : Int32)))), (q3, .inl (cA4, 4, .inl (fun _ => 0))), (q5, .inl (cA6, 240, .inl (fun _ => 0))), (q7, .inl (cA8, 42, .inl (fun _ => 0))), (q9, .inl (cA10, 1764, .inl (fun _ => 0))), (q11, .inl (cA12, 42, .inl (fun _ => 0))), (q13, .inl (cA14, 8, .inl (fun _ => 0))), (q15, .inl (cA16, 8, .inl (fun _ => 0))), (q17, .inl (cA18, 8, .inl (fun _ => 0))), (q19, .inl (cA20, 6, .inl (fun _ => 0))), (q21, .inl (cA22, 6, .inl (fun _ => 0)))] H := hP
  have hD : va_D A [(h0, .inr (7, [.int 0, .int 0, .ref q1, .ref q3, .ref q5, .int 0, .int 0, .ref q7, .ref q9, .int 0, .int 0, .int 0, .ref q11, .int 0, .ref q13, .ref q15, .ref q17, .int 0, .int 0, .int 0, .int 0, .ref q19, .ref q21, .null, .null, .int 0, .null, .null])), (q1, .inl (cA2, 4, .inl (upd (upd (upd (upd (fun _ => 0) 0 (-9 : Int32)) 1 (-9 : Int32)) 2 (-9 : Int32)) 3 (-9 : Int32)))), (q3, .inl (cA4, 4, .inl (fun _ => 0))), (q5, .inl (cA6, 240, .inl (fun _ => 0))), (q7, .inl (cA8, 42, .inl (fun _ => 0))), (q9, .inl (cA10, 1764, .inl (fun _ => 0))), (q11, .inl (cA12, 42, .inl (fun _ => 0))), (q13, .inl (cA14, 8, .inl (fun _ => 0))), (q15, .inl (cA16, 8, .inl (fun _ => 0))), (q17, .inl (cA18, 8, .inl (fun _ => 0))), (q19, .inl (cA20, 6, .inl (fun _ => 0))), (q21, .inl (cA22, 6, .inl (fun _ => 0)))] := hD
  refine lv_aload_n hx hb di_7_112 rfl (lv_at hl 0 rfl) ?_
  refine lv_sipush (v := 3636) hx hb di_7_113 (by decide) ?_
  refine va_newa (atype := .boolean) (ty := .boolean) (a0 := (3636, .inl (fun _ => 0))) hx hb (htb _ wa_boolean) rfl hK hP hD hS hA (fun _ => rfl) (by decide) rfl (by decide) (Nat.le_of_ble_eq_true rfl) (Nat.le_of_ble_eq_true rfl) di_7_116 (fun q23 cA24 H hK hP hD hS => ?_)
  have hP : va_P D mm_K [(h0, .inr (7, [.int 0, .int 0, .ref q1, .ref q3, .ref q5, .int 0, .int 0, .ref q7, .ref q9, .int 0, .int 0, .int 0, .ref q11, .int 0, .ref q13, .ref q15, .ref q17, .int 0, .int 0, .int 0, .int 0, .ref q19, .ref q21, .null, .null, .int 0, .null, .null])), (q1, .inl (cA2, 4, .inl (upd (upd (upd (upd (fun _ => 0) 0 (-9 : Int32)) 1 (-9 : Int32)) 2 (-9 : Int32)) 3 (-9 : Int32)))), (q3, .inl (cA4, 4, .inl (fun _ => 0))), (q5, .inl (cA6, 240, .inl (fun _ => 0))), (q7, .inl (cA8, 42, .inl (fun _ => 0))), (q9, .inl (cA10, 1764, .inl (fun _ => 0))), (q11, .inl (cA12, 42, .inl (fun _ => 0))), (q13, .inl (cA14, 8, .inl (fun _ => 0))), (q15, .inl (cA16, 8, .inl (fun _ => 0))), (q17, .inl (cA18, 8, .inl (fun _ => 0))), (q19, .inl (cA20, 6, .inl (fun _ => 0))), (q21, .inl (cA22, 6, .inl (fun _ => 0))), (q23, .inl (cA24, 3636, .inl (fun _ => 0)))] H := hP
  have hD : va_D A [(h0, .inr (7, [.int 0, .int 0, .ref q1, .ref q3, .ref q5, .int 0, .int 0, .ref q7, .ref q9, .int 0, .int 0, .int 0, .ref q11, .int 0, .ref q13, .ref q15, .ref q17, .int 0, .int 0, .int 0, .int 0, .ref q19, .ref q21, .null, .null, .int 0, .null, .null])), (q1, .inl (cA2, 4, .inl (upd (upd (upd (upd (fun _ => 0) 0 (-9 : Int32)) 1 (-9 : Int32)) 2 (-9 : Int32)) 3 (-9 : Int32)))), (q3, .inl (cA4, 4, .inl (fun _ => 0))), (q5, .inl (cA6, 240, .inl (fun _ => 0))), (q7, .inl (cA8, 42, .inl (fun _ => 0))), (q9, .inl (cA10, 1764, .inl (fun _ => 0))), (q11, .inl (cA12, 42, .inl (fun _ => 0))), (q13, .inl (cA14, 8, .inl (fun _ => 0))), (q15, .inl (cA16, 8, .inl (fun _ => 0))), (q17, .inl (cA18, 8, .inl (fun _ => 0))), (q19, .inl (cA20, 6, .inl (fun _ => 0))), (q21, .inl (cA22, 6, .inl (fun _ => 0))), (q23, .inl (cA24, 3636, .inl (fun _ => 0)))] := hD
  have hK : va_K D mm_K [(cA2, .int), (cA4, .int), (cA6, .int), (cA8, .boolean), (cA10, .int), (cA12, .boolean), (cA14, .int), (cA16, .int), (cA18, .int), (cA20, .int), (cA22, .int), (cA24, .boolean)] s := hK
  refine va_putF (D := D) (ci := 7) (v := .ref q23) (ty := .array .boolean) (C := RX7) (T := TX7) (N := 28) hx hb htb mu_7 tyX7 tyX7_ok nmX7 hown hK hP hD hS 0 rfl rfl 23 (by decide) (htb _ wf_7_44) (fun _ h9 => h9) rfl hin rfl (by decide +kernel) rfl rfl (Nat.le_of_ble_eq_true rfl) di_7_118 (fun H locs hP hD hS => ?_)
  have hP : va_P D mm_K [(h0, .inr (7, [.int 0, .int 0, .ref q1, .ref q3, .ref q5, .int 0, .int 0, .ref q7, .ref q9, .int 0, .int 0, .int 0, .ref q11, .int 0, .ref q13, .ref q15, .ref q17, .int 0, .int 0, .int 0, .int 0, .ref q19, .ref q21, .ref q23, .null, .int 0, .null, .null])), (q1, .inl (cA2, 4, .inl (upd (upd (upd (upd (fun _ => 0) 0 (-9 : Int32)) 1 (-9 : Int32)) 2 (-9 : Int32)) 3 (-9 : Int32)))), (q3, .inl (cA4, 4, .inl (fun _ => 0))), (q5, .inl (cA6, 240, .inl (fun _ => 0))), (q7, .inl (cA8, 42, .inl (fun _ => 0))), (q9, .inl (cA10, 1764, .inl (fun _ => 0))), (q11, .inl (cA12, 42, .inl (fun _ => 0))), (q13, .inl (cA14, 8, .inl (fun _ => 0))), (q15, .inl (cA16, 8, .inl (fun _ => 0))), (q17, .inl (cA18, 8, .inl (fun _ => 0))), (q19, .inl (cA20, 6, .inl (fun _ => 0))), (q21, .inl (cA22, 6, .inl (fun _ => 0))), (q23, .inl (cA24, 3636, .inl (fun _ => 0)))] H := hP
  have hD : va_D A [(h0, .inr (7, [.int 0, .int 0, .ref q1, .ref q3, .ref q5, .int 0, .int 0, .ref q7, .ref q9, .int 0, .int 0, .int 0, .ref q11, .int 0, .ref q13, .ref q15, .ref q17, .int 0, .int 0, .int 0, .int 0, .ref q19, .ref q21, .ref q23, .null, .int 0, .null, .null])), (q1, .inl (cA2, 4, .inl (upd (upd (upd (upd (fun _ => 0) 0 (-9 : Int32)) 1 (-9 : Int32)) 2 (-9 : Int32)) 3 (-9 : Int32)))), (q3, .inl (cA4, 4, .inl (fun _ => 0))), (q5, .inl (cA6, 240, .inl (fun _ => 0))), (q7, .inl (cA8, 42, .inl (fun _ => 0))), (q9, .inl (cA10, 1764, .inl (fun _ => 0))), (q11, .inl (cA12, 42, .inl (fun _ => 0))), (q13, .inl (cA14, 8, .inl (fun _ => 0))), (q15, .inl (cA16, 8, .inl (fun _ => 0))), (q17, .inl (cA18, 8, .inl (fun _ => 0))), (q19, .inl (cA20, 6, .inl (fun _ => 0))), (q21, .inl (cA22, 6, .inl (fun _ => 0))), (q23, .inl (cA24, 3636, .inl (fun _ => 0)))] := hD
  refine lv_aload_n hx hb di_7_121 rfl (lv_at hl 0 rfl) ?_
  refine lv_bipush (v := 6) hx hb di_7_122 (by decide) ?_
  refine va_newa (atype := .int) (ty := .int) (a0 := (6, .inl (fun _ => 0))) hx hb (htb _ wa_int) rfl hK hP hD hS hA (fun _ => rfl) (by decide) rfl (by decide) (Nat.le_of_ble_eq_true rfl) (Nat.le_of_ble_eq_true rfl) di_7_124 (fun q25 cA26 H hK hP hD hS => ?_)
  have hP : va_P D mm_K [(h0, .inr (7, [.int 0, .int 0, .ref q1, .ref q3, .ref q5, .int 0, .int 0, .ref q7, .ref q9, .int 0, .int 0, .int 0, .ref q11, .int 0, .ref q13, .ref q15, .ref q17, .int 0, .int 0, .int 0, .int 0, .ref q19, .ref q21, .ref q23, .null, .int 0, .null, .null])), (q1, .inl (cA2, 4, .inl (upd (upd (upd (upd (fun _ => 0) 0 (-9 : Int32)) 1 (-9 : Int32)) 2 (-9 : Int32)) 3 (-9 : Int32)))), (q3, .inl (cA4, 4, .inl (fun _ => 0))), (q5, .inl (cA6, 240, .inl (fun _ => 0))), (q7, .inl (cA8, 42, .inl (fun _ => 0))), (q9, .inl (cA10, 1764, .inl (fun _ => 0))), (q11, .inl (cA12, 42, .inl (fun _ => 0))), (q13, .inl (cA14, 8, .inl (fun _ => 0))), (q15, .inl (cA16, 8, .inl (fun _ => 0))), (q17, .inl (cA18, 8, .inl (fun _ => 0))), (q19, .inl (cA20, 6, .inl (fun _ => 0))), (q21, .inl (cA22, 6, .inl (fun _ => 0))), (q23, .inl (cA24, 3636, .inl (fun _ => 0))), (q25, .inl (cA26, 6, .inl (fun _ => 0)))] H := hP
  have hD : va_D A [(h0, .inr (7, [.int 0, .int 0, .ref q1, .ref q3, .ref q5, .int 0, .int 0, .ref q7, .ref q9, .int 0, .int 0, .int 0, .ref q11, .int 0, .ref q13, .ref q15, .ref q17, .int 0, .int 0, .int 0, .int 0, .ref q19, .ref q21, .ref q23, .null, .int 0, .null, .null])), (q1, .inl (cA2, 4, .inl (upd (upd (upd (upd (fun _ => 0) 0 (-9 : Int32)) 1 (-9 : Int32)) 2 (-9 : Int32)) 3 (-9 : Int32)))), (q3, .inl (cA4, 4, .inl (fun _ => 0))), (q5, .inl (cA6, 240, .inl (fun _ => 0))), (q7, .inl (cA8, 42, .inl (fun _ => 0))), (q9, .inl (cA10, 1764, .inl (fun _ => 0))), (q11, .inl (cA12, 42, .inl (fun _ => 0))), (q13, .inl (cA14, 8, .inl (fun _ => 0))), (q15, .inl (cA16, 8, .inl (fun _ => 0))), (q17, .inl (cA18, 8, .inl (fun _ => 0))), (q19, .inl (cA20, 6, .inl (fun _ => 0))), (q21, .inl (cA22, 6, .inl (fun _ => 0))), (q23, .inl (cA24, 3636, .inl (fun _ => 0))), (q25, .inl (cA26, 6, .inl (fun _ => 0)))] := hD
  have hK : va_K D mm_K [(cA2, .int), (cA4, .int), (cA6, .int), (cA8, .boolean), (cA10, .int), (cA12, .boolean), (cA14, .int), (cA16, .int), (cA18, .int), (cA20, .int), (cA22, .int), (cA24, .boolean), (cA26, .int)] s := hK
  refine va_putF (D := D) (ci := 7) (v := .ref q25) (ty := .array .int) (C := RX7) (T := TX7) (N := 28) hx hb htb mu_7 tyX7 tyX7_ok nmX7 hown hK hP hD hS 0 rfl rfl 24 (by decide) (htb _ wf_7_47) (fun _ h9 => h9) rfl hin rfl (by decide +kernel) rfl rfl (Nat.le_of_ble_eq_true rfl) di_7_126 (fun H locs hP hD hS => ?_)
  have hP : va_P D mm_K [(h0, .inr (7, [.int 0, .int 0, .ref q1, .ref q3, .ref q5, .int 0, .int 0, .ref q7, .ref q9, .int 0, .int 0, .int 0, .ref q11, .int 0, .ref q13, .ref q15, .ref q17, .int 0, .int 0, .int 0, .int 0, .ref q19, .ref q21, .ref q23, .ref q25, .int 0, .null, .null])), (q1, .inl (cA2, 4, .inl (upd (upd (upd (upd (fun _ => 0) 0 (-9 : Int32)) 1 (-9 : Int32)) 2 (-9 : Int32)) 3 (-9 : Int32)))), (q3, .inl (cA4, 4, .inl (fun _ => 0))), (q5, .inl (cA6, 240, .inl (fun _ => 0))), (q7, .inl (cA8, 42, .inl (fun _ => 0))), (q9, .inl (cA10, 1764, .inl (fun _ => 0))), (q11, .inl (cA12, 42, .inl (fun _ => 0))), (q13, .inl (cA14, 8, .inl (fun _ => 0))), (q15, .inl (cA16, 8, .inl (fun _ => 0))), (q17, .inl (cA18, 8, .inl (fun _ => 0))), (q19, .inl (cA20, 6, .inl (fun _ => 0))), (q21, .inl (cA22, 6, .inl (fun _ => 0))), (q23, .inl (cA24, 3636, .inl (fun _ => 0))), (q25, .inl (cA26, 6, .inl (fun _ => 0)))] H := hP
  have hD : va_D A [(h0, .inr (7, [.int 0, .int 0, .ref q1, .ref q3, .ref q5, .int 0, .int 0, .ref q7, .ref q9, .int 0, .int 0, .int 0, .ref q11, .int 0, .ref q13, .ref q15, .ref q17, .int 0, .int 0, .int 0, .int 0, .ref q19, .ref q21, .ref q23, .ref q25, .int 0, .null, .null])), (q1, .inl (cA2, 4, .inl (upd (upd (upd (upd (fun _ => 0) 0 (-9 : Int32)) 1 (-9 : Int32)) 2 (-9 : Int32)) 3 (-9 : Int32)))), (q3, .inl (cA4, 4, .inl (fun _ => 0))), (q5, .inl (cA6, 240, .inl (fun _ => 0))), (q7, .inl (cA8, 42, .inl (fun _ => 0))), (q9, .inl (cA10, 1764, .inl (fun _ => 0))), (q11, .inl (cA12, 42, .inl (fun _ => 0))), (q13, .inl (cA14, 8, .inl (fun _ => 0))), (q15, .inl (cA16, 8, .inl (fun _ => 0))), (q17, .inl (cA18, 8, .inl (fun _ => 0))), (q19, .inl (cA20, 6, .inl (fun _ => 0))), (q21, .inl (cA22, 6, .inl (fun _ => 0))), (q23, .inl (cA24, 3636, .inl (fun _ => 0))), (q25, .inl (cA26, 6, .inl (fun _ => 0)))] := hD
  refine lv_aload_n hx hb di_7_129 rfl (lv_at hl 0 rfl) ?_
  refine lv_bipush (v := 6) hx hb di_7_130 (by decide) ?_
  refine va_newa (atype := .int) (ty := .int) (a0 := (6, .inl (fun _ => 0))) hx hb (htb _ wa_int) rfl hK hP hD hS hA (fun _ => rfl) (by decide) rfl (by decide) (Nat.le_of_ble_eq_true rfl) (Nat.le_of_ble_eq_true rfl) di_7_132 (fun q27 cA28 H hK hP hD hS => ?_)
  have hP : va_P D mm_K [(h0, .inr (7, [.int 0, .int 0, .ref q1, .ref q3, .ref q5, .int 0, .int 0, .ref q7, .ref q9, .int 0, .int 0, .int 0, .ref q11, .int 0, .ref q13, .ref q15, .ref q17, .int 0, .int 0, .int 0, .int 0, .ref q19, .ref q21, .ref q23, .ref q25, .int 0, .null, .null])), (q1, .inl (cA2, 4, .inl (upd (upd (upd (upd (fun _ => 0) 0 (-9 : Int32)) 1 (-9 : Int32)) 2 (-9 : Int32)) 3 (-9 : Int32)))), (q3, .inl (cA4, 4, .inl (fun _ => 0))), (q5, .inl (cA6, 240, .inl (fun _ => 0))), (q7, .inl (cA8, 42, .inl (fun _ => 0))), (q9, .inl (cA10, 1764, .inl (fun _ => 0))), (q11, .inl (cA12, 42, .inl (fun _ => 0))), (q13, .inl (cA14, 8, .inl (fun _ => 0))), (q15, .inl (cA16, 8, .inl (fun _ => 0))), (q17, .inl (cA18, 8, .inl (fun _ => 0))), (q19, .inl (cA20, 6, .inl (fun _ => 0))), (q21, .inl (cA22, 6, .inl (fun _ => 0))), (q23, .inl (cA24, 3636, .inl (fun _ => 0))), (q25, .inl (cA26, 6, .inl (fun _ => 0))), (q27, .inl (cA28, 6, .inl (fun _ => 0)))] H := hP
  have hD : va_D A [(h0, .inr (7, [.int 0, .int 0, .ref q1, .ref q3, .ref q5, .int 0, .int 0, .ref q7, .ref q9, .int 0, .int 0, .int 0, .ref q11, .int 0, .ref q13, .ref q15, .ref q17, .int 0, .int 0, .int 0, .int 0, .ref q19, .ref q21, .ref q23, .ref q25, .int 0, .null, .null])), (q1, .inl (cA2, 4, .inl (upd (upd (upd (upd (fun _ => 0) 0 (-9 : Int32)) 1 (-9 : Int32)) 2 (-9 : Int32)) 3 (-9 : Int32)))), (q3, .inl (cA4, 4, .inl (fun _ => 0))), (q5, .inl (cA6, 240, .inl (fun _ => 0))), (q7, .inl (cA8, 42, .inl (fun _ => 0))), (q9, .inl (cA10, 1764, .inl (fun _ => 0))), (q11, .inl (cA12, 42, .inl (fun _ => 0))), (q13, .inl (cA14, 8, .inl (fun _ => 0))), (q15, .inl (cA16, 8, .inl (fun _ => 0))), (q17, .inl (cA18, 8, .inl (fun _ => 0))), (q19, .inl (cA20, 6, .inl (fun _ => 0))), (q21, .inl (cA22, 6, .inl (fun _ => 0))), (q23, .inl (cA24, 3636, .inl (fun _ => 0))), (q25, .inl (cA26, 6, .inl (fun _ => 0))), (q27, .inl (cA28, 6, .inl (fun _ => 0)))] := hD
  have hK : va_K D mm_K [(cA2, .int), (cA4, .int), (cA6, .int), (cA8, .boolean), (cA10, .int), (cA12, .boolean), (cA14, .int), (cA16, .int), (cA18, .int), (cA20, .int), (cA22, .int), (cA24, .boolean), (cA26, .int), (cA28, .int)] s := hK
  refine va_putF (D := D) (ci := 7) (v := .ref q27) (ty := .array .int) (C := RX7) (T := TX7) (N := 28) hx hb htb mu_7 tyX7 tyX7_ok nmX7 hown hK hP hD hS 0 rfl rfl 26 (by decide) (htb _ wf_7_50) (fun _ h9 => h9) rfl hin rfl (by decide +kernel) rfl rfl (Nat.le_of_ble_eq_true rfl) di_7_134 (fun H locs hP hD hS => ?_)
  have hP : va_P D mm_K [(h0, .inr (7, [.int 0, .int 0, .ref q1, .ref q3, .ref q5, .int 0, .int 0, .ref q7, .ref q9, .int 0, .int 0, .int 0, .ref q11, .int 0, .ref q13, .ref q15, .ref q17, .int 0, .int 0, .int 0, .int 0, .ref q19, .ref q21, .ref q23, .ref q25, .int 0, .ref q27, .null])), (q1, .inl (cA2, 4, .inl (upd (upd (upd (upd (fun _ => 0) 0 (-9 : Int32)) 1 (-9 : Int32)) 2 (-9 : Int32)) 3 (-9 : Int32)))), (q3, .inl (cA4, 4, .inl (fun _ => 0))), (q5, .inl (cA6, 240, .inl (fun _ => 0))), (q7, .inl (cA8, 42, .inl (fun _ => 0))), (q9, .inl (cA10, 1764, .inl (fun _ => 0))), (q11, .inl (cA12, 42, .inl (fun _ => 0))), (q13, .inl (cA14, 8, .inl (fun _ => 0))), (q15, .inl (cA16, 8, .inl (fun _ => 0))), (q17, .inl (cA18, 8, .inl (fun _ => 0))), (q19, .inl (cA20, 6, .inl (fun _ => 0))), (q21, .inl (cA22, 6, .inl (fun _ => 0))), (q23, .inl (cA24, 3636, .inl (fun _ => 0))), (q25, .inl (cA26, 6, .inl (fun _ => 0))), (q27, .inl (cA28, 6, .inl (fun _ => 0)))] H := hP
  have hD : va_D A [(h0, .inr (7, [.int 0, .int 0, .ref q1, .ref q3, .ref q5, .int 0, .int 0, .ref q7, .ref q9, .int 0, .int 0, .int 0, .ref q11, .int 0, .ref q13, .ref q15, .ref q17, .int 0, .int 0, .int 0, .int 0, .ref q19, .ref q21, .ref q23, .ref q25, .int 0, .ref q27, .null])), (q1, .inl (cA2, 4, .inl (upd (upd (upd (upd (fun _ => 0) 0 (-9 : Int32)) 1 (-9 : Int32)) 2 (-9 : Int32)) 3 (-9 : Int32)))), (q3, .inl (cA4, 4, .inl (fun _ => 0))), (q5, .inl (cA6, 240, .inl (fun _ => 0))), (q7, .inl (cA8, 42, .inl (fun _ => 0))), (q9, .inl (cA10, 1764, .inl (fun _ => 0))), (q11, .inl (cA12, 42, .inl (fun _ => 0))), (q13, .inl (cA14, 8, .inl (fun _ => 0))), (q15, .inl (cA16, 8, .inl (fun _ => 0))), (q17, .inl (cA18, 8, .inl (fun _ => 0))), (q19, .inl (cA20, 6, .inl (fun _ => 0))), (q21, .inl (cA22, 6, .inl (fun _ => 0))), (q23, .inl (cA24, 3636, .inl (fun _ => 0))), (q25, .inl (cA26, 6, .inl (fun _ => 0))), (q27, .inl (cA28, 6, .inl (fun _ => 0)))] := hD
  refine lv_aload_n hx hb di_7_137 rfl (lv_at hl 0 rfl) ?_
  refine lv_bipush (v := 6) hx hb di_7_138 (by decide) ?_
  refine va_newa (atype := .int) (ty := .int) (a0 := (6, .inl (fun _ => 0))) hx hb (htb _ wa_int) rfl hK hP hD hS hA (fun _ => rfl) (by decide) rfl (by decide) (Nat.le_of_ble_eq_true rfl) (Nat.le_of_ble_eq_true rfl) di_7_140 (fun q29 cA30 H hK hP hD hS => ?_)
  have hP : va_P D mm_K [(h0, .inr (7, [.int 0, .int 0, .ref q1, .ref q3, .ref q5, .int 0, .int 0, .ref q7, .ref q9, .int 0, .int 0, .int 0, .ref q11, .int 0, .ref q13, .ref q15, .ref q17, .int 0, .int 0, .int 0, .int 0, .ref q19, .ref q21, .ref q23, .ref q25, .int 0, .ref q27, .null])), (q1, .inl (cA2, 4, .inl (upd (upd (upd (upd (fun _ => 0) 0 (-9 : Int32)) 1 (-9 : Int32)) 2 (-9 : Int32)) 3 (-9 : Int32)))), (q3, .inl (cA4, 4, .inl (fun _ => 0))), (q5, .inl (cA6, 240, .inl (fun _ => 0))), (q7, .inl (cA8, 42, .inl (fun _ => 0))), (q9, .inl (cA10, 1764, .inl (fun _ => 0))), (q11, .inl (cA12, 42, .inl (fun _ => 0))), (q13, .inl (cA14, 8, .inl (fun _ => 0))), (q15, .inl (cA16, 8, .inl (fun _ => 0))), (q17, .inl (cA18, 8, .inl (fun _ => 0))), (q19, .inl (cA20, 6, .inl (fun _ => 0))), (q21, .inl (cA22, 6, .inl (fun _ => 0))), (q23, .inl (cA24, 3636, .inl (fun _ => 0))), (q25, .inl (cA26, 6, .inl (fun _ => 0))), (q27, .inl (cA28, 6, .inl (fun _ => 0))), (q29, .inl (cA30, 6, .inl (fun _ => 0)))] H := hP
  have hD : va_D A [(h0, .inr (7, [.int 0, .int 0, .ref q1, .ref q3, .ref q5, .int 0, .int 0, .ref q7, .ref q9, .int 0, .int 0, .int 0, .ref q11, .int 0, .ref q13, .ref q15, .ref q17, .int 0, .int 0, .int 0, .int 0, .ref q19, .ref q21, .ref q23, .ref q25, .int 0, .ref q27, .null])), (q1, .inl (cA2, 4, .inl (upd (upd (upd (upd (fun _ => 0) 0 (-9 : Int32)) 1 (-9 : Int32)) 2 (-9 : Int32)) 3 (-9 : Int32)))), (q3, .inl (cA4, 4, .inl (fun _ => 0))), (q5, .inl (cA6, 240, .inl (fun _ => 0))), (q7, .inl (cA8, 42, .inl (fun _ => 0))), (q9, .inl (cA10, 1764, .inl (fun _ => 0))), (q11, .inl (cA12, 42, .inl (fun _ => 0))), (q13, .inl (cA14, 8, .inl (fun _ => 0))), (q15, .inl (cA16, 8, .inl (fun _ => 0))), (q17, .inl (cA18, 8, .inl (fun _ => 0))), (q19, .inl (cA20, 6, .inl (fun _ => 0))), (q21, .inl (cA22, 6, .inl (fun _ => 0))), (q23, .inl (cA24, 3636, .inl (fun _ => 0))), (q25, .inl (cA26, 6, .inl (fun _ => 0))), (q27, .inl (cA28, 6, .inl (fun _ => 0))), (q29, .inl (cA30, 6, .inl (fun _ => 0)))] := hD
  have hK : va_K D mm_K [(cA2, .int), (cA4, .int), (cA6, .int), (cA8, .boolean), (cA10, .int), (cA12, .boolean), (cA14, .int), (cA16, .int), (cA18, .int), (cA20, .int), (cA22, .int), (cA24, .boolean), (cA26, .int), (cA28, .int), (cA30, .int)] s := hK
  refine va_putF (D := D) (ci := 7) (v := .ref q29) (ty := .array .int) (C := RX7) (T := TX7) (N := 28) hx hb htb mu_7 tyX7 tyX7_ok nmX7 hown hK hP hD hS 0 rfl rfl 27 (by decide) (htb _ wf_7_53) (fun _ h9 => h9) rfl hin rfl (by decide +kernel) rfl rfl (Nat.le_of_ble_eq_true rfl) di_7_142 (fun H locs hP hD hS => ?_)
  have hP : va_P D mm_K [(h0, .inr (7, [.int 0, .int 0, .ref q1, .ref q3, .ref q5, .int 0, .int 0, .ref q7, .ref q9, .int 0, .int 0, .int 0, .ref q11, .int 0, .ref q13, .ref q15, .ref q17, .int 0, .int 0, .int 0, .int 0, .ref q19, .ref q21, .ref q23, .ref q25, .int 0, .ref q27, .ref q29])), (q1, .inl (cA2, 4, .inl (upd (upd (upd (upd (fun _ => 0) 0 (-9 : Int32)) 1 (-9 : Int32)) 2 (-9 : Int32)) 3 (-9 : Int32)))), (q3, .inl (cA4, 4, .inl (fun _ => 0))), (q5, .inl (cA6, 240, .inl (fun _ => 0))), (q7, .inl (cA8, 42, .inl (fun _ => 0))), (q9, .inl (cA10, 1764, .inl (fun _ => 0))), (q11, .inl (cA12, 42, .inl (fun _ => 0))), (q13, .inl (cA14, 8, .inl (fun _ => 0))), (q15, .inl (cA16, 8, .inl (fun _ => 0))), (q17, .inl (cA18, 8, .inl (fun _ => 0))), (q19, .inl (cA20, 6, .inl (fun _ => 0))), (q21, .inl (cA22, 6, .inl (fun _ => 0))), (q23, .inl (cA24, 3636, .inl (fun _ => 0))), (q25, .inl (cA26, 6, .inl (fun _ => 0))), (q27, .inl (cA28, 6, .inl (fun _ => 0))), (q29, .inl (cA30, 6, .inl (fun _ => 0)))] H := hP
  have hD : va_D A [(h0, .inr (7, [.int 0, .int 0, .ref q1, .ref q3, .ref q5, .int 0, .int 0, .ref q7, .ref q9, .int 0, .int 0, .int 0, .ref q11, .int 0, .ref q13, .ref q15, .ref q17, .int 0, .int 0, .int 0, .int 0, .ref q19, .ref q21, .ref q23, .ref q25, .int 0, .ref q27, .ref q29])), (q1, .inl (cA2, 4, .inl (upd (upd (upd (upd (fun _ => 0) 0 (-9 : Int32)) 1 (-9 : Int32)) 2 (-9 : Int32)) 3 (-9 : Int32)))), (q3, .inl (cA4, 4, .inl (fun _ => 0))), (q5, .inl (cA6, 240, .inl (fun _ => 0))), (q7, .inl (cA8, 42, .inl (fun _ => 0))), (q9, .inl (cA10, 1764, .inl (fun _ => 0))), (q11, .inl (cA12, 42, .inl (fun _ => 0))), (q13, .inl (cA14, 8, .inl (fun _ => 0))), (q15, .inl (cA16, 8, .inl (fun _ => 0))), (q17, .inl (cA18, 8, .inl (fun _ => 0))), (q19, .inl (cA20, 6, .inl (fun _ => 0))), (q21, .inl (cA22, 6, .inl (fun _ => 0))), (q23, .inl (cA24, 3636, .inl (fun _ => 0))), (q25, .inl (cA26, 6, .inl (fun _ => 0))), (q27, .inl (cA28, 6, .inl (fun _ => 0))), (q29, .inl (cA30, 6, .inl (fun _ => 0)))] := hD
  refine W.widen (k := 15) (n := 5786) (Nat.le_of_ble_eq_true rfl) (Nat.le_of_ble_eq_true rfl) ?_
  exact W.vret hx hb hr (fun t ht hW => ⟨⟨(), rfl, trivial, q1, q3, q5, q7, q9, q11, q13, q15, q17, q19, q21, q23, q25, q27, q29, cA2, cA4, cA6, cA8, cA10, cA12, cA14, cA16, cA18, cA20, cA22, cA24, cA26, cA28, cA30, by rw [ht]; exact hP, va_K.moved hW.alike hK, hD⟩, hS.F ht⟩) hS.2.2 di_7_145
end
section
theorem wo_6 : Cond.methodLink RX6 3 objectInit ∈ mm_TB := (mm_t1 (w := .methodLink RX6 3 objectInit) 19 (by decide +kernel) (by decide +kernel))
theorem wl_6_11 : Cond.classLink RX6 11 RX4 ∈ mm_TB := (mm_t1 (w := .classLink RX6 11 RX4) 22 (by decide +kernel) (by decide +kernel))
theorem wf_6_13 : Cond.fieldLink RX6 13 "PondRings" "sheets" "[LPondRings$Sheet;" ∈ mm_TB := (mm_t1 (w := .fieldLink RX6 13 "PondRings" "sheets" "[LPondRings$Sheet;") 176 (by decide +kernel) (by decide +kernel))
theorem wl_6_18 : Cond.classLink RX6 18 RX3 ∈ mm_TB := (mm_t1 (w := .classLink RX6 18 RX3) 47 (by decide +kernel) (by decide +kernel))
theorem wf_6_21 : Cond.fieldLink RX6 21 "PondRings" "text" "LPondRings$PondText;" ∈ mm_TB := (mm_t1 (w := .fieldLink RX6 21 "PondRings" "text" "LPondRings$PondText;") 177 (by decide +kernel) (by decide +kernel))
theorem wl_6_25 : Cond.classLink RX6 25 RX2 ∈ mm_TB := (mm_t1 (w := .classLink RX6 25 RX2) 66 (by decide +kernel) (by decide +kernel))
theorem wf_6_28 : Cond.fieldLink RX6 28 "PondRings" "lake" "LPondRings$Pond;" ∈ mm_TB := (mm_t1 (w := .fieldLink RX6 28 "PondRings" "lake" "LPondRings$Pond;") 178 (by decide +kernel) (by decide +kernel))
theorem wl_6_32 : Cond.classLink RX6 32 RX0 ∈ mm_TB := (mm_t1 (w := .classLink RX6 32 RX0) 101 (by decide +kernel) (by decide +kernel))
theorem wm_6_34 : Cond.methodLink RX6 34 yX0_init ∈ mm_TB := (mm_t1 (w := .methodLink RX6 34 yX0_init) 103 (by decide +kernel) (by decide +kernel))
theorem wf_6_37 : Cond.fieldLink RX6 37 "PondRings" "stones" "LPondRings$Listing;" ∈ mm_TB := (mm_t1 (w := .fieldLink RX6 37 "PondRings" "stones" "LPondRings$Listing;") 179 (by decide +kernel) (by decide +kernel))
theorem wf_6_41 : Cond.fieldLink RX6 41 "PondRings" "wishes" "LPondRings$Listing;" ∈ mm_TB := (mm_t1 (w := .fieldLink RX6 41 "PondRings" "wishes" "LPondRings$Listing;") 180 (by decide +kernel) (by decide +kernel))
theorem wf_6_44 : Cond.fieldLink RX6 44 "PondRings" "reeds" "LPondRings$Listing;" ∈ mm_TB := (mm_t1 (w := .fieldLink RX6 44 "PondRings" "reeds" "LPondRings$Listing;") 181 (by decide +kernel) (by decide +kernel))
theorem wl_6_47 : Cond.classLink RX6 47 RX1 ∈ mm_TB := (mm_t1 (w := .classLink RX6 47 RX1) 127 (by decide +kernel) (by decide +kernel))
theorem wf_6_50 : Cond.fieldLink RX6 50 "PondRings" "meeting" "LPondRings$Meeting;" ∈ mm_TB := (mm_t1 (w := .fieldLink RX6 50 "PondRings" "meeting" "LPondRings$Meeting;") 182 (by decide +kernel) (by decide +kernel))
theorem wl_6_54 : Cond.classLink RX6 54 RX5 ∈ mm_TB := (mm_t1 (w := .classLink RX6 54 RX5) 142 (by decide +kernel) (by decide +kernel))
theorem wf_6_57 : Cond.fieldLink RX6 57 "PondRings" "timetable" "LPondRings$Timetable;" ∈ mm_TB := (mm_t1 (w := .fieldLink RX6 57 "PondRings" "timetable" "LPondRings$Timetable;") 183 (by decide +kernel) (by decide +kernel))
theorem wf_6_61 : Cond.fieldLink RX6 61 "PondRings" "clashes" "[I" ∈ mm_TB := (mm_t1 (w := .fieldLink RX6 61 "PondRings" "clashes" "[I") 184 (by decide +kernel) (by decide +kernel))
theorem wf_6_65 : Cond.fieldLink RX6 65 "PondRings" "traced" "I" ∈ mm_TB := (mm_t1 (w := .fieldLink RX6 65 "PondRings" "traced" "I") 185 (by decide +kernel) (by decide +kernel))
theorem wf_6_69 : Cond.fieldLink RX6 69 "PondRings" "latestFault" "I" ∈ mm_TB := (mm_t1 (w := .fieldLink RX6 69 "PondRings" "latestFault" "I") 186 (by decide +kernel) (by decide +kernel))
set_option maxHeartbeats 4000000 in
set_option maxRecDepth 100000 in
theorem c_X6 (l : Launch) (D : va_G) (h0 sz : Nat) : Met l yX6_init (Cond.code yX6_init cX6_init 2 none :: mm_TB) ({ frames := 6, cells := 34, slots := 2291, locals := 200 }) (va_Pc [.ref h0] (fun U => U.heap.size = sz ∧ va_P D mm_K [(h0, .inr (6, [.null, .null, .null, .null, .null, .null, .null, .null, .null, .int 0, .int 0]))] U.heap ∧ va_K D mm_K [] U ∧ mc_N U ∧ va_D (fun _ => True) [(h0, .inr (6, [.null, .null, .null, .null, .null, .null, .null, .null, .null, .int 0, .int 0]))])) (va_Qv (fun _ : Unit => True) (fun (_ : Unit) (t : State) => ∃ (q1 : Nat) (q3 : Nat) (q4 : Nat) (q6 : Nat) (q7 : Nat) (q9 : Nat) (q10 : Nat) (q12 : Nat) (q13 : Nat) (q15 : Nat) (q16 : Nat) (q17 : Nat) (q18 : Nat) (q21 : Nat) (q22 : Nat) (q23 : Nat) (q24 : Nat) (q28 : Nat) (q29 : Nat) (q30 : Nat) (q31 : Nat) (q35 : Nat) (q36 : Nat) (q37 : Nat) (q38 : Nat) (q42 : Nat) (q43 : Nat) (q44 : Nat) (q45 : Nat) (q46 : Nat) (q47 : Nat) (q48 : Nat) (q49 : Nat) (q56 : Nat) (cA2 : ClassId) (cA5 : ClassId) (cA8 : ClassId) (cA11 : ClassId) (cA14 : ClassId) (cA19 : ClassId) (cA20 : ClassId) (cA25 : ClassId) (cA26 : ClassId) (cA27 : ClassId) (cA32 : ClassId) (cA33 : ClassId) (cA34 : ClassId) (cA39 : ClassId) (cA40 : ClassId) (cA41 : ClassId) (cA50 : ClassId) (cA51 : ClassId) (cA52 : ClassId) (cA53 : ClassId) (cA54 : ClassId) (cA55 : ClassId) (cA57 : ClassId), va_P D mm_K [(h0, .inr (6, [.ref q1, .ref q15, .ref q16, .ref q21, .ref q28, .ref q35, .ref q42, .ref q43, .ref q56, .int (0 : Int32), .int (0 : Int32)])), (q1, .inl (cA2, 4, .inr (.inr (.inr (.inr (va_up (va_up (va_up (va_up (fun _ => none) 0 (some q3)) 1 (some q6)) 2 (some q9)) 3 (some q12))))))), (q3, .inr (4, [.ref q4, .int 0, .int 0, .int 0])), (q4, .inl (cA5, 60, .inl (fun _ => 0))), (q6, .inr (4, [.ref q7, .int 0, .int 0, .int 0])), (q7, .inl (cA8, 60, .inl (fun _ => 0))), (q9, .inr (4, [.ref q10, .int 0, .int 0, .int 0])), (q10, .inl (cA11, 60, .inl (fun _ => 0))), (q12, .inr (4, [.ref q13, .int 0, .int 0, .int 0])), (q13, .inl (cA14, 60, .inl (fun _ => 0))), (q15, .inr (3, [.int 0, .int 0, .long 0])), (q16, .inr (2, [.ref q17, .ref q18, .long 0, .long 0, .long 0, .int 0, .int 0, .long 0])), (q17, .inl (cA19, 1764, .inr (.inl (fun _ => 0)))), (q18, .inl (cA20, 42, .inl (fun _ => 0))), (q21, .inr (0, [.ref q22, .ref q23, .ref q24, .int 0])), (q22, .inl (cA25, 8, .inl (fun _ => 0))), (q23, .inl (cA26, 8, .inl (fun _ => 0))), (q24, .inl (cA27, 8, .inl (fun _ => 0))), (q28, .inr (0, [.ref q29, .ref q30, .ref q31, .int 0])), (q29, .inl (cA32, 6, .inl (fun _ => 0))), (q30, .inl (cA33, 6, .inl (fun _ => 0))), (q31, .inl (cA34, 6, .inl (fun _ => 0))), (q35, .inr (0, [.ref q36, .ref q37, .ref q38, .int 0])), (q36, .inl (cA39, 6, .inl (fun _ => 0))), (q37, .inl (cA40, 6, .inl (fun _ => 0))), (q38, .inl (cA41, 6, .inl (fun _ => 0))), (q42, .inr (1, [.int 0, .int 0])), (q43, .inr (5, [.ref q44, .ref q45, .ref q46, .ref q47, .int 0, .ref q48, .ref q49, .int 0])), (q44, .inl (cA50, 36, .inr (.inl (fun _ => 0)))), (q45, .inl (cA51, 36, .inr (.inl (fun _ => 0)))), (q46, .inl (cA52, 36, .inr (.inl (fun _ => 0)))), (q47, .inl (cA53, 6, .inl (fun _ => 0))), (q48, .inl (cA54, 6, .inl (fun _ => 0))), (q49, .inl (cA55, 6, .inl (fun _ => 0))), (q56, .inl (cA57, 6, .inl (fun _ => 0)))] t.heap ∧ va_K D mm_K [(cA2, .object "PondRings$Sheet"), (cA5, .int), (cA8, .int), (cA11, .int), (cA14, .int), (cA19, .long), (cA20, .int), (cA25, .int), (cA26, .int), (cA27, .int), (cA32, .int), (cA33, .int), (cA34, .int), (cA39, .int), (cA40, .int), (cA41, .int), (cA50, .long), (cA51, .long), (cA52, .long), (cA53, .int), (cA54, .int), (cA55, .int), (cA57, .int)] t ∧ va_D (va_A [(h0, .inr (6, [.null, .null, .null, .null, .null, .null, .null, .null, .null, .int 0, .int 0]))] sz) [(h0, .inr (6, [.ref q1, .ref q15, .ref q16, .ref q21, .ref q28, .ref q35, .ref q42, .ref q43, .ref q56, .int (0 : Int32), .int (0 : Int32)])), (q1, .inl (cA2, 4, .inr (.inr (.inr (.inr (va_up (va_up (va_up (va_up (fun _ => none) 0 (some q3)) 1 (some q6)) 2 (some q9)) 3 (some q12))))))), (q3, .inr (4, [.ref q4, .int 0, .int 0, .int 0])), (q4, .inl (cA5, 60, .inl (fun _ => 0))), (q6, .inr (4, [.ref q7, .int 0, .int 0, .int 0])), (q7, .inl (cA8, 60, .inl (fun _ => 0))), (q9, .inr (4, [.ref q10, .int 0, .int 0, .int 0])), (q10, .inl (cA11, 60, .inl (fun _ => 0))), (q12, .inr (4, [.ref q13, .int 0, .int 0, .int 0])), (q13, .inl (cA14, 60, .inl (fun _ => 0))), (q15, .inr (3, [.int 0, .int 0, .long 0])), (q16, .inr (2, [.ref q17, .ref q18, .long 0, .long 0, .long 0, .int 0, .int 0, .long 0])), (q17, .inl (cA19, 1764, .inr (.inl (fun _ => 0)))), (q18, .inl (cA20, 42, .inl (fun _ => 0))), (q21, .inr (0, [.ref q22, .ref q23, .ref q24, .int 0])), (q22, .inl (cA25, 8, .inl (fun _ => 0))), (q23, .inl (cA26, 8, .inl (fun _ => 0))), (q24, .inl (cA27, 8, .inl (fun _ => 0))), (q28, .inr (0, [.ref q29, .ref q30, .ref q31, .int 0])), (q29, .inl (cA32, 6, .inl (fun _ => 0))), (q30, .inl (cA33, 6, .inl (fun _ => 0))), (q31, .inl (cA34, 6, .inl (fun _ => 0))), (q35, .inr (0, [.ref q36, .ref q37, .ref q38, .int 0])), (q36, .inl (cA39, 6, .inl (fun _ => 0))), (q37, .inl (cA40, 6, .inl (fun _ => 0))), (q38, .inl (cA41, 6, .inl (fun _ => 0))), (q42, .inr (1, [.int 0, .int 0])), (q43, .inr (5, [.ref q44, .ref q45, .ref q46, .ref q47, .int 0, .ref q48, .ref q49, .int 0])), (q44, .inl (cA50, 36, .inr (.inl (fun _ => 0)))), (q45, .inl (cA51, 36, .inr (.inl (fun _ => 0)))), (q46, .inl (cA52, 36, .inr (.inl (fun _ => 0)))), (q47, .inl (cA53, 6, .inl (fun _ => 0))), (q48, .inl (cA54, 6, .inl (fun _ => 0))), (q49, .inl (cA55, 6, .inl (fun _ => 0))), (q56, .inl (cA57, 6, .inl (fun _ => 0)))]) (va_A [(h0, .inr (6, [.null, .null, .null, .null, .null, .null, .null, .null, .null, .int 0, .int 0]))] sz)) 34 2291 (va_A [(h0, .inr (6, [.null, .null, .null, .null, .null, .null, .null, .null, .null, .int 0, .int 0]))] sz) := by
  refine Met.ofW (cc := cX6_init) (maxL := 2) (ret := none) (by decide) rfl ?_
  intro p e s m args below meth c s₁ B hml hv
  obtain ⟨rfl, hsz, hP, hK, hN, hD0⟩ := hv
  have hx := B.exec
  have hb := B.bytes
  have hr := B.returns
  have hts := atoms_spec (ws := Cond.code yX6_init cX6_init 2 none :: mm_TB) B.pre
  have htb : ∀ w ∈ mm_TB, w.before [.ref h0].toArray s = true := fun w hw => hts w (List.mem_cons_of_mem _ hw)
  have hown : s.vm.findClass RX6 = some m.cls := findClass_of_methodNamed B.named
  have hlocks := B.notSynchronized
  have hin : meth.name = "<init>" := (name_of_methodNamed B.named B.method).1
  subst hsz
  have hD := hD0.self (sz := s.heap.size)
  generalize hAe : va_A [(h0, .inr (6, [.null, .null, .null, .null, .null, .null, .null, .null, .null, .int 0, .int 0]))] s.heap.size = A at hD ⊢
  have hA : ∀ q : Nat, s.heap.size ≤ q → A q := fun q h => by rw [← hAe]; exact Or.inr h
  have hS : va_S A s.heap s.heap [] := va_S.rf
  have hl := lv_entry ([.ref h0]) (n := 2) (Nat.le_of_ble_eq_true rfl)
  rw [lg_entry_eq]
  generalize (lg_sl ([.ref h0]) ++ List.replicate (2 - (lg_sl ([.ref h0])).length) Slot.unset).toArray = ls at hl ⊢
  have hl : lv_has ls 2 [(0, .ref h0)] := hl
  refine lv_aload_n hx hb di_6_0 rfl (lv_at hl 0 rfl) ?_
  refine W.objInit hx hb hown (htb _ wo_6) (htb _ wo_inst) (htb _ wo_code) rfl (by rw [hml]; exact hl.1) rfl di_6_1 (Nat.le_of_ble_eq_true rfl) (Nat.le_of_ble_eq_true rfl) ?_
  refine W.eq (g2 := F0 m 4 ls []) rfl ?_
  refine lv_aload_n hx hb di_6_4 rfl (lv_at hl 0 rfl) ?_
  refine lv_iconst (v := 4) hx hb di_6_5 (by decide) ?_
  refine va_newq (C := "PondRings$Sheet") hx hb hown (htb _ wl_6_11) hN.2.2.2.2.2 hK hP hD hS hA (by decide) (N' := 4) rfl (by decide) (Nat.le_of_ble_eq_true rfl) (Nat.le_of_ble_eq_true rfl) di_6_6 (fun q1 cA2 H hK hP hD hS => ?_)
  have hP : va_P D mm_K [(h0, .inr (6, [.null, .null, .null, .null, .null, .null, .null, .null, .null, .int 0, .int 0])), (q1, .inl (cA2, 4, .inr (.inr (.inr (.inr (fun _ => none))))))] H := hP
  have hD : va_D A [(h0, .inr (6, [.null, .null, .null, .null, .null, .null, .null, .null, .null, .int 0, .int 0])), (q1, .inl (cA2, 4, .inr (.inr (.inr (.inr (fun _ => none))))))] := hD
  have hK : va_K D mm_K [(cA2, .object "PondRings$Sheet")] s := hK
  refine va_putF (D := D) (ci := 6) (v := .ref q1) (ty := .array (.object "PondRings$Sheet")) (C := RX6) (T := TX6) (N := 11) hx hb htb mu_6 tyX6 tyX6_ok nmX6 hown hK hP hD hS 0 rfl rfl 0 (by decide) (htb _ wf_6_13) (fun _ h9 => h9) rfl hin rfl (by decide +kernel) rfl rfl (Nat.le_of_ble_eq_true rfl) di_6_9 (fun H locs hP hD hS => ?_)
  have hP : va_P D mm_K [(h0, .inr (6, [.ref q1, .null, .null, .null, .null, .null, .null, .null, .null, .int 0, .int 0])), (q1, .inl (cA2, 4, .inr (.inr (.inr (.inr (fun _ => none))))))] H := hP
  have hD : va_D A [(h0, .inr (6, [.ref q1, .null, .null, .null, .null, .null, .null, .null, .null, .int 0, .int 0])), (q1, .inl (cA2, 4, .inr (.inr (.inr (.inr (fun _ => none))))))] := hD
  refine lv_iconst (v := 0) hx hb di_6_12 (by decide) ?_
  refine lv_istore_n (lv' := [(1, .int (0 : Int32)), (0, .ref h0)]) hx hb di_6_13 rfl hl (by decide) rfl (fun ls hl => ?_)
  refine lv_iload_n hx hb di_6_14 rfl (lv_at hl 0 rfl) ?_
  refine lv_iconst (v := 4) hx hb di_6_15 (by decide) ?_
  refine lv_icmp_ge (tgt := 38) hx hb di_6_16 (by decide) (fun z => absurd z (by decide)) (fun _ => ?_)
  refine lv_aload_n hx hb di_6_19 rfl (lv_at hl 1 rfl) ?_
  refine va_get (D := D) (ci := 6) (v := .ref q1) (C := RX6) (T := TX6) (N := 11) hx hb htb mu_6 hown hK hP 0 rfl rfl 0 (by decide) (htb _ wf_6_13) (fun _ h9 => h9) rfl di_6_20 ?_
  refine lv_iload_n hx hb di_6_23 rfl (lv_at hl 0 rfl) ?_
  refine va_new (ci := 4) (fs := [.null, .int 0, .int 0, .int 0]) (C := RX4) (T := TX4) (N := 4) hx hb htb mu_4 tyX4 tyX4_ok hown (htb _ wl_6_11) (htb _ wc_able_4) (htb _ wc_ini_4) hK hP hD hS hA rfl md_4 (Nat.le_of_ble_eq_true rfl) (Nat.le_of_ble_eq_true rfl) di_6_24 (fun q3 H hP hD hS => ?_)
  have hP : va_P D mm_K [(h0, .inr (6, [.ref q1, .null, .null, .null, .null, .null, .null, .null, .null, .int 0, .int 0])), (q1, .inl (cA2, 4, .inr (.inr (.inr (.inr (fun _ => none)))))), (q3, .inr (4, [.null, .int 0, .int 0, .int 0]))] H := hP
  have hD : va_D A [(h0, .inr (6, [.ref q1, .null, .null, .null, .null, .null, .null, .null, .null, .int 0, .int 0])), (q1, .inl (cA2, 4, .inr (.inr (.inr (.inr (fun _ => none)))))), (q3, .inr (4, [.null, .int 0, .int 0, .int 0]))] := hD
  refine lv_dup hx hb di_6_27 rfl ?_
  have hPc := hP.sub (ws' := [(q3, .inr (4, [.null, .int 0, .int 0, .int 0]))]) [2] rfl
  have hDc := hD.sub (ws' := [(q3, .inr (4, [.null, .int 0, .int 0, .int 0]))]) [2] (by decide) rfl
  have hKc := hK.sub (tys' := []) [] rfl
  have hFc := va_free (wc := [(q3, .inr (4, [.null, .int 0, .int 0, .int 0]))]) hD hS hA [2] rfl
  refine va_callv (va_runIN (As := []) (rest := [.ref q3, .int (0 : Int32), .ref q1]) ⟨hx, hb, hml, hown, htb⟩ (c_X4 l D q3 H.size) ⟨va_cnB 0 htb (wg wc_code_4) rfl rfl rfl hN.1 (htb _ wc_ini_4) ⟨by decide +kernel, by decide +kernel, by decide +kernel⟩ ⟨Nat.le_of_ble_eq_true rfl, Nat.le_of_ble_eq_true rfl⟩, rfl, htb _ wc_inst_4⟩ ⟨fun a U g mk q => by obtain ⟨q0, q1, qP, qK, qD⟩ := q; exact ⟨q0, q1, qP, va_K.moved (u := U) (U := U.calling g mk a) (Vm.Alike.refl U.vm) qK, qD⟩, fun U hU hW => ⟨rfl, by rw [hU], by rw [hU]; exact hPc, va_K.moved hW.alike hKc, hDc.weaken (fun _ _ _ _ => trivial)⟩⟩ rfl rfl hl.1 rfl (lv_room (Nat.le_of_ble_eq_true rfl)) di_6_28 ⟨Nat.le_of_ble_eq_true rfl, Nat.le_of_ble_eq_true rfl⟩) hS (fun q _ h => hFc q h) hFc (fun u t H1 locs ht hvm hw hB hz1 hk1 hS => ?_)
  obtain ⟨q4, cA5, hP1, hK1, hD1⟩ := hB
  rw [ht] at hP1
  have hK1 := va_K.moved hvm.symm hK1
  obtain ⟨hP, hD⟩ := va_join (wr := [(h0, .inr (6, [.ref q1, .null, .null, .null, .null, .null, .null, .null, .null, .int 0, .int 0])), (q1, .inl (cA2, 4, .inr (.inr (.inr (.inr (fun _ => none))))))]) (w1 := [(q3, .inr (4, [.ref q4, .int 0, .int 0, .int 0])), (q4, .inl (cA5, 60, .inl (fun _ => 0)))]) hP hD [2] [0, 1] rfl rfl (by decide) (by decide) hk1 hFc hP1 hD1
  have hK := (hK.sub (tys' := [(cA2, .object "PondRings$Sheet")]) [0] rfl).app hK1
  generalize H1 = H at hP hS ⊢
  have hP : va_P D mm_K [(h0, .inr (6, [.ref q1, .null, .null, .null, .null, .null, .null, .null, .null, .int 0, .int 0])), (q1, .inl (cA2, 4, .inr (.inr (.inr (.inr (fun _ => none)))))), (q3, .inr (4, [.ref q4, .int 0, .int 0, .int 0])), (q4, .inl (cA5, 60, .inl (fun _ => 0)))] H := hP
  have hD : va_D A [(h0, .inr (6, [.ref q1, .null, .null, .null, .null, .null, .null, .null, .null, .int 0, .int 0])), (q1, .inl (cA2, 4, .inr (.inr (.inr (.inr (fun _ => none)))))), (q3, .inr (4, [.ref q4, .int 0, .int 0, .int 0])), (q4, .inl (cA5, 60, .inl (fun _ => 0)))] := hD
  have hK : va_K D mm_K [(cA2, .object "PondRings$Sheet"), (cA5, .int)] s := hK
  refine va_astq (D := D) (r := (RX4, TX4, 4)) hx hb hK hP hD hS 1 0 2 4 rfl rfl rfl rfl (i := (0 : Int32)) (by unfold vp_in; decide) di_6_31 (fun H locs hP hD hS => ?_)
  have hP : va_P D mm_K [(h0, .inr (6, [.ref q1, .null, .null, .null, .null, .null, .null, .null, .null, .int 0, .int 0])), (q1, .inl (cA2, 4, .inr (.inr (.inr (.inr (va_up (fun _ => none) 0 (some q3))))))), (q3, .inr (4, [.ref q4, .int 0, .int 0, .int 0])), (q4, .inl (cA5, 60, .inl (fun _ => 0)))] H := hP
  have hD : va_D A [(h0, .inr (6, [.ref q1, .null, .null, .null, .null, .null, .null, .null, .null, .int 0, .int 0])), (q1, .inl (cA2, 4, .inr (.inr (.inr (.inr (va_up (fun _ => none) 0 (some q3))))))), (q3, .inr (4, [.ref q4, .int 0, .int 0, .int 0])), (q4, .inl (cA5, 60, .inl (fun _ => 0)))] := hD
  refine lv_iinc (v := 1) (lv' := [(1, .int (1 : Int32)), (0, .ref h0)]) hx hb di_6_32 hl (k := 0) rfl (by decide) (by decide) rfl (fun ls hl => ?_)
  refine lv_goto (tgt := 14) hx hb di_6_35 (by decide) ?_
  refine lv_iload_n hx hb di_6_14 rfl (lv_at hl 0 rfl) ?_
  refine lv_iconst (v := 4) hx hb di_6_15 (by decide) ?_
  refine lv_icmp_ge (tgt := 38) hx hb di_6_16 (by decide) (fun z => absurd z (by decide)) (fun _ => ?_)
  refine lv_aload_n hx hb di_6_19 rfl (lv_at hl 1 rfl) ?_
  refine va_get (D := D) (ci := 6) (v := .ref q1) (C := RX6) (T := TX6) (N := 11) hx hb htb mu_6 hown hK hP 0 rfl rfl 0 (by decide) (htb _ wf_6_13) (fun _ h9 => h9) rfl di_6_20 ?_
  refine lv_iload_n hx hb di_6_23 rfl (lv_at hl 0 rfl) ?_
  refine va_new (ci := 4) (fs := [.null, .int 0, .int 0, .int 0]) (C := RX4) (T := TX4) (N := 4) hx hb htb mu_4 tyX4 tyX4_ok hown (htb _ wl_6_11) (htb _ wc_able_4) (htb _ wc_ini_4) hK hP hD hS hA rfl md_4 (Nat.le_of_ble_eq_true rfl) (Nat.le_of_ble_eq_true rfl) di_6_24 (fun q6 H hP hD hS => ?_)
  have hP : va_P D mm_K [(h0, .inr (6, [.ref q1, .null, .null, .null, .null, .null, .null, .null, .null, .int 0, .int 0])), (q1, .inl (cA2, 4, .inr (.inr (.inr (.inr (va_up (fun _ => none) 0 (some q3))))))), (q3, .inr (4, [.ref q4, .int 0, .int 0, .int 0])), (q4, .inl (cA5, 60, .inl (fun _ => 0))), (q6, .inr (4, [.null, .int 0, .int 0, .int 0]))] H := hP
  have hD : va_D A [(h0, .inr (6, [.ref q1, .null, .null, .null, .null, .null, .null, .null, .null, .int 0, .int 0])), (q1, .inl (cA2, 4, .inr (.inr (.inr (.inr (va_up (fun _ => none) 0 (some q3))))))), (q3, .inr (4, [.ref q4, .int 0, .int 0, .int 0])), (q4, .inl (cA5, 60, .inl (fun _ => 0))), (q6, .inr (4, [.null, .int 0, .int 0, .int 0]))] := hD
  refine lv_dup hx hb di_6_27 rfl ?_
  have hPc := hP.sub (ws' := [(q6, .inr (4, [.null, .int 0, .int 0, .int 0]))]) [4] rfl
  have hDc := hD.sub (ws' := [(q6, .inr (4, [.null, .int 0, .int 0, .int 0]))]) [4] (by decide) rfl
  have hKc := hK.sub (tys' := []) [] rfl
  have hFc := va_free (wc := [(q6, .inr (4, [.null, .int 0, .int 0, .int 0]))]) hD hS hA [4] rfl
  refine va_callv (va_runIN (As := []) (rest := [.ref q6, .int (1 : Int32), .ref q1]) ⟨hx, hb, hml, hown, htb⟩ (c_X4 l D q6 H.size) ⟨va_cnB 0 htb (wg wc_code_4) rfl rfl rfl hN.1 (htb _ wc_ini_4) ⟨by decide +kernel, by decide +kernel, by decide +kernel⟩ ⟨Nat.le_of_ble_eq_true rfl, Nat.le_of_ble_eq_true rfl⟩, rfl, htb _ wc_inst_4⟩ ⟨fun a U g mk q => by obtain ⟨q0, q1, qP, qK, qD⟩ := q; exact ⟨q0, q1, qP, va_K.moved (u := U) (U := U.calling g mk a) (Vm.Alike.refl U.vm) qK, qD⟩, fun U hU hW => ⟨rfl, by rw [hU], by rw [hU]; exact hPc, va_K.moved hW.alike hKc, hDc.weaken (fun _ _ _ _ => trivial)⟩⟩ rfl rfl hl.1 rfl (lv_room (Nat.le_of_ble_eq_true rfl)) di_6_28 ⟨Nat.le_of_ble_eq_true rfl, Nat.le_of_ble_eq_true rfl⟩) hS (fun q _ h => hFc q h) hFc (fun u t H1 locs ht hvm hw hB hz1 hk1 hS => ?_)
  obtain ⟨q7, cA8, hP1, hK1, hD1⟩ := hB
  rw [ht] at hP1
  have hK1 := va_K.moved hvm.symm hK1
  obtain ⟨hP, hD⟩ := va_join (wr := [(h0, .inr (6, [.ref q1, .null, .null, .null, .null, .null, .null, .null, .null, .int 0, .int 0])), (q1, .inl (cA2, 4, .inr (.inr (.inr (.inr (va_up (fun _ => none) 0 (some q3))))))), (q3, .inr (4, [.ref q4, .int 0, .int 0, .int 0])), (q4, .inl (cA5, 60, .inl (fun _ => 0)))]) (w1 := [(q6, .inr (4, [.ref q7, .int 0, .int 0, .int 0])), (q7, .inl (cA8, 60, .inl (fun _ => 0)))]) hP hD [4] [0, 1, 2, 3] rfl rfl (by decide) (by decide) hk1 hFc hP1 hD1
  have hK := (hK.sub (tys' := [(cA2, .object "PondRings$Sheet"), (cA5, .int)]) [0, 1] rfl).app hK1
  generalize H1 = H at hP hS ⊢
  have hP : va_P D mm_K [(h0, .inr (6, [.ref q1, .null, .null, .null, .null, .null, .null, .null, .null, .int 0, .int 0])), (q1, .inl (cA2, 4, .inr (.inr (.inr (.inr (va_up (fun _ => none) 0 (some q3))))))), (q3, .inr (4, [.ref q4, .int 0, .int 0, .int 0])), (q4, .inl (cA5, 60, .inl (fun _ => 0))), (q6, .inr (4, [.ref q7, .int 0, .int 0, .int 0])), (q7, .inl (cA8, 60, .inl (fun _ => 0)))] H := hP
  have hD : va_D A [(h0, .inr (6, [.ref q1, .null, .null, .null, .null, .null, .null, .null, .null, .int 0, .int 0])), (q1, .inl (cA2, 4, .inr (.inr (.inr (.inr (va_up (fun _ => none) 0 (some q3))))))), (q3, .inr (4, [.ref q4, .int 0, .int 0, .int 0])), (q4, .inl (cA5, 60, .inl (fun _ => 0))), (q6, .inr (4, [.ref q7, .int 0, .int 0, .int 0])), (q7, .inl (cA8, 60, .inl (fun _ => 0)))] := hD
  have hK : va_K D mm_K [(cA2, .object "PondRings$Sheet"), (cA5, .int), (cA8, .int)] s := hK
  refine va_astq (D := D) (r := (RX4, TX4, 4)) hx hb hK hP hD hS 1 0 4 4 rfl rfl rfl rfl (i := (1 : Int32)) (by unfold vp_in; decide) di_6_31 (fun H locs hP hD hS => ?_)
  have hP : va_P D mm_K [(h0, .inr (6, [.ref q1, .null, .null, .null, .null, .null, .null, .null, .null, .int 0, .int 0])), (q1, .inl (cA2, 4, .inr (.inr (.inr (.inr (va_up (va_up (fun _ => none) 0 (some q3)) 1 (some q6))))))), (q3, .inr (4, [.ref q4, .int 0, .int 0, .int 0])), (q4, .inl (cA5, 60, .inl (fun _ => 0))), (q6, .inr (4, [.ref q7, .int 0, .int 0, .int 0])), (q7, .inl (cA8, 60, .inl (fun _ => 0)))] H := hP
  have hD : va_D A [(h0, .inr (6, [.ref q1, .null, .null, .null, .null, .null, .null, .null, .null, .int 0, .int 0])), (q1, .inl (cA2, 4, .inr (.inr (.inr (.inr (va_up (va_up (fun _ => none) 0 (some q3)) 1 (some q6))))))), (q3, .inr (4, [.ref q4, .int 0, .int 0, .int 0])), (q4, .inl (cA5, 60, .inl (fun _ => 0))), (q6, .inr (4, [.ref q7, .int 0, .int 0, .int 0])), (q7, .inl (cA8, 60, .inl (fun _ => 0)))] := hD
  refine lv_iinc (v := 2) (lv' := [(1, .int (2 : Int32)), (0, .ref h0)]) hx hb di_6_32 hl (k := 0) rfl (by decide) (by decide) rfl (fun ls hl => ?_)
  refine lv_goto (tgt := 14) hx hb di_6_35 (by decide) ?_
  refine lv_iload_n hx hb di_6_14 rfl (lv_at hl 0 rfl) ?_
  refine lv_iconst (v := 4) hx hb di_6_15 (by decide) ?_
  refine lv_icmp_ge (tgt := 38) hx hb di_6_16 (by decide) (fun z => absurd z (by decide)) (fun _ => ?_)
  refine lv_aload_n hx hb di_6_19 rfl (lv_at hl 1 rfl) ?_
  refine va_get (D := D) (ci := 6) (v := .ref q1) (C := RX6) (T := TX6) (N := 11) hx hb htb mu_6 hown hK hP 0 rfl rfl 0 (by decide) (htb _ wf_6_13) (fun _ h9 => h9) rfl di_6_20 ?_
  refine lv_iload_n hx hb di_6_23 rfl (lv_at hl 0 rfl) ?_
  refine va_new (ci := 4) (fs := [.null, .int 0, .int 0, .int 0]) (C := RX4) (T := TX4) (N := 4) hx hb htb mu_4 tyX4 tyX4_ok hown (htb _ wl_6_11) (htb _ wc_able_4) (htb _ wc_ini_4) hK hP hD hS hA rfl md_4 (Nat.le_of_ble_eq_true rfl) (Nat.le_of_ble_eq_true rfl) di_6_24 (fun q9 H hP hD hS => ?_)
  have hP : va_P D mm_K [(h0, .inr (6, [.ref q1, .null, .null, .null, .null, .null, .null, .null, .null, .int 0, .int 0])), (q1, .inl (cA2, 4, .inr (.inr (.inr (.inr (va_up (va_up (fun _ => none) 0 (some q3)) 1 (some q6))))))), (q3, .inr (4, [.ref q4, .int 0, .int 0, .int 0])), (q4, .inl (cA5, 60, .inl (fun _ => 0))), (q6, .inr (4, [.ref q7, .int 0, .int 0, .int 0])), (q7, .inl (cA8, 60, .inl (fun _ => 0))), (q9, .inr (4, [.null, .int 0, .int 0, .int 0]))] H := hP
  have hD : va_D A [(h0, .inr (6, [.ref q1, .null, .null, .null, .null, .null, .null, .null, .null, .int 0, .int 0])), (q1, .inl (cA2, 4, .inr (.inr (.inr (.inr (va_up (va_up (fun _ => none) 0 (some q3)) 1 (some q6))))))), (q3, .inr (4, [.ref q4, .int 0, .int 0, .int 0])), (q4, .inl (cA5, 60, .inl (fun _ => 0))), (q6, .inr (4, [.ref q7, .int 0, .int 0, .int 0])), (q7, .inl (cA8, 60, .inl (fun _ => 0))), (q9, .inr (4, [.null, .int 0, .int 0, .int 0]))] := hD
  refine lv_dup hx hb di_6_27 rfl ?_
  have hPc := hP.sub (ws' := [(q9, .inr (4, [.null, .int 0, .int 0, .int 0]))]) [6] rfl
  have hDc := hD.sub (ws' := [(q9, .inr (4, [.null, .int 0, .int 0, .int 0]))]) [6] (by decide) rfl
  have hKc := hK.sub (tys' := []) [] rfl
  have hFc := va_free (wc := [(q9, .inr (4, [.null, .int 0, .int 0, .int 0]))]) hD hS hA [6] rfl
  refine va_callv (va_runIN (As := []) (rest := [.ref q9, .int (2 : Int32), .ref q1]) ⟨hx, hb, hml, hown, htb⟩ (c_X4 l D q9 H.size) ⟨va_cnB 0 htb (wg wc_code_4) rfl rfl rfl hN.1 (htb _ wc_ini_4) ⟨by decide +kernel, by decide +kernel, by decide +kernel⟩ ⟨Nat.le_of_ble_eq_true rfl, Nat.le_of_ble_eq_true rfl⟩, rfl, htb _ wc_inst_4⟩ ⟨fun a U g mk q => by obtain ⟨q0, q1, qP, qK, qD⟩ := q; exact ⟨q0, q1, qP, va_K.moved (u := U) (U := U.calling g mk a) (Vm.Alike.refl U.vm) qK, qD⟩, fun U hU hW => ⟨rfl, by rw [hU], by rw [hU]; exact hPc, va_K.moved hW.alike hKc, hDc.weaken (fun _ _ _ _ => trivial)⟩⟩ rfl rfl hl.1 rfl (lv_room (Nat.le_of_ble_eq_true rfl)) di_6_28 ⟨Nat.le_of_ble_eq_true rfl, Nat.le_of_ble_eq_true rfl⟩) hS (fun q _ h => hFc q h) hFc (fun u t H1 locs ht hvm hw hB hz1 hk1 hS => ?_)
  obtain ⟨q10, cA11, hP1, hK1, hD1⟩ := hB
  rw [ht] at hP1
  have hK1 := va_K.moved hvm.symm hK1
  obtain ⟨hP, hD⟩ := va_join (wr := [(h0, .inr (6, [.ref q1, .null, .null, .null, .null, .null, .null, .null, .null, .int 0, .int 0])), (q1, .inl (cA2, 4, .inr (.inr (.inr (.inr (va_up (va_up (fun _ => none) 0 (some q3)) 1 (some q6))))))), (q3, .inr (4, [.ref q4, .int 0, .int 0, .int 0])), (q4, .inl (cA5, 60, .inl (fun _ => 0))), (q6, .inr (4, [.ref q7, .int 0, .int 0, .int 0])), (q7, .inl (cA8, 60, .inl (fun _ => 0)))]) (w1 := [(q9, .inr (4, [.ref q10, .int 0, .int 0, .int 0])), (q10, .inl (cA11, 60, .inl (fun _ => 0)))]) hP hD [6] [0, 1, 2, 3, 4, 5] rfl rfl (by decide) (by decide) hk1 hFc hP1 hD1
  have hK := (hK.sub (tys' := [(cA2, .object "PondRings$Sheet"), (cA5, .int), (cA8, .int)]) [0, 1, 2] rfl).app hK1
  generalize H1 = H at hP hS ⊢
  have hP : va_P D mm_K [(h0, .inr (6, [.ref q1, .null, .null, .null, .null, .null, .null, .null, .null, .int 0, .int 0])), (q1, .inl (cA2, 4, .inr (.inr (.inr (.inr (va_up (va_up (fun _ => none) 0 (some q3)) 1 (some q6))))))), (q3, .inr (4, [.ref q4, .int 0, .int 0, .int 0])), (q4, .inl (cA5, 60, .inl (fun _ => 0))), (q6, .inr (4, [.ref q7, .int 0, .int 0, .int 0])), (q7, .inl (cA8, 60, .inl (fun _ => 0))), (q9, .inr (4, [.ref q10, .int 0, .int 0, .int 0])), (q10, .inl (cA11, 60, .inl (fun _ => 0)))] H := hP
  have hD : va_D A [(h0, .inr (6, [.ref q1, .null, .null, .null, .null, .null, .null, .null, .null, .int 0, .int 0])), (q1, .inl (cA2, 4, .inr (.inr (.inr (.inr (va_up (va_up (fun _ => none) 0 (some q3)) 1 (some q6))))))), (q3, .inr (4, [.ref q4, .int 0, .int 0, .int 0])), (q4, .inl (cA5, 60, .inl (fun _ => 0))), (q6, .inr (4, [.ref q7, .int 0, .int 0, .int 0])), (q7, .inl (cA8, 60, .inl (fun _ => 0))), (q9, .inr (4, [.ref q10, .int 0, .int 0, .int 0])), (q10, .inl (cA11, 60, .inl (fun _ => 0)))] := hD
  have hK : va_K D mm_K [(cA2, .object "PondRings$Sheet"), (cA5, .int), (cA8, .int), (cA11, .int)] s := hK
  refine va_astq (D := D) (r := (RX4, TX4, 4)) hx hb hK hP hD hS 1 0 6 4 rfl rfl rfl rfl (i := (2 : Int32)) (by unfold vp_in; decide) di_6_31 (fun H locs hP hD hS => ?_)
  have hP : va_P D mm_K [(h0, .inr (6, [.ref q1, .null, .null, .null, .null, .null, .null, .null, .null, .int 0, .int 0])), (q1, .inl (cA2, 4, .inr (.inr (.inr (.inr (va_up (va_up (va_up (fun _ => none) 0 (some q3)) 1 (some q6)) 2 (some q9))))))), (q3, .inr (4, [.ref q4, .int 0, .int 0, .int 0])), (q4, .inl (cA5, 60, .inl (fun _ => 0))), (q6, .inr (4, [.ref q7, .int 0, .int 0, .int 0])), (q7, .inl (cA8, 60, .inl (fun _ => 0))), (q9, .inr (4, [.ref q10, .int 0, .int 0, .int 0])), (q10, .inl (cA11, 60, .inl (fun _ => 0)))] H := hP
  have hD : va_D A [(h0, .inr (6, [.ref q1, .null, .null, .null, .null, .null, .null, .null, .null, .int 0, .int 0])), (q1, .inl (cA2, 4, .inr (.inr (.inr (.inr (va_up (va_up (va_up (fun _ => none) 0 (some q3)) 1 (some q6)) 2 (some q9))))))), (q3, .inr (4, [.ref q4, .int 0, .int 0, .int 0])), (q4, .inl (cA5, 60, .inl (fun _ => 0))), (q6, .inr (4, [.ref q7, .int 0, .int 0, .int 0])), (q7, .inl (cA8, 60, .inl (fun _ => 0))), (q9, .inr (4, [.ref q10, .int 0, .int 0, .int 0])), (q10, .inl (cA11, 60, .inl (fun _ => 0)))] := hD
  refine lv_iinc (v := 3) (lv' := [(1, .int (3 : Int32)), (0, .ref h0)]) hx hb di_6_32 hl (k := 0) rfl (by decide) (by decide) rfl (fun ls hl => ?_)
  refine lv_goto (tgt := 14) hx hb di_6_35 (by decide) ?_
  refine lv_iload_n hx hb di_6_14 rfl (lv_at hl 0 rfl) ?_
  refine lv_iconst (v := 4) hx hb di_6_15 (by decide) ?_
  refine lv_icmp_ge (tgt := 38) hx hb di_6_16 (by decide) (fun z => absurd z (by decide)) (fun _ => ?_)
  refine lv_aload_n hx hb di_6_19 rfl (lv_at hl 1 rfl) ?_
  refine va_get (D := D) (ci := 6) (v := .ref q1) (C := RX6) (T := TX6) (N := 11) hx hb htb mu_6 hown hK hP 0 rfl rfl 0 (by decide) (htb _ wf_6_13) (fun _ h9 => h9) rfl di_6_20 ?_
  refine lv_iload_n hx hb di_6_23 rfl (lv_at hl 0 rfl) ?_
  refine va_new (ci := 4) (fs := [.null, .int 0, .int 0, .int 0]) (C := RX4) (T := TX4) (N := 4) hx hb htb mu_4 tyX4 tyX4_ok hown (htb _ wl_6_11) (htb _ wc_able_4) (htb _ wc_ini_4) hK hP hD hS hA rfl md_4 (Nat.le_of_ble_eq_true rfl) (Nat.le_of_ble_eq_true rfl) di_6_24 (fun q12 H hP hD hS => ?_)
  have hP : va_P D mm_K [(h0, .inr (6, [.ref q1, .null, .null, .null, .null, .null, .null, .null, .null, .int 0, .int 0])), (q1, .inl (cA2, 4, .inr (.inr (.inr (.inr (va_up (va_up (va_up (fun _ => none) 0 (some q3)) 1 (some q6)) 2 (some q9))))))), (q3, .inr (4, [.ref q4, .int 0, .int 0, .int 0])), (q4, .inl (cA5, 60, .inl (fun _ => 0))), (q6, .inr (4, [.ref q7, .int 0, .int 0, .int 0])), (q7, .inl (cA8, 60, .inl (fun _ => 0))), (q9, .inr (4, [.ref q10, .int 0, .int 0, .int 0])), (q10, .inl (cA11, 60, .inl (fun _ => 0))), (q12, .inr (4, [.null, .int 0, .int 0, .int 0]))] H := hP
  have hD : va_D A [(h0, .inr (6, [.ref q1, .null, .null, .null, .null, .null, .null, .null, .null, .int 0, .int 0])), (q1, .inl (cA2, 4, .inr (.inr (.inr (.inr (va_up (va_up (va_up (fun _ => none) 0 (some q3)) 1 (some q6)) 2 (some q9))))))), (q3, .inr (4, [.ref q4, .int 0, .int 0, .int 0])), (q4, .inl (cA5, 60, .inl (fun _ => 0))), (q6, .inr (4, [.ref q7, .int 0, .int 0, .int 0])), (q7, .inl (cA8, 60, .inl (fun _ => 0))), (q9, .inr (4, [.ref q10, .int 0, .int 0, .int 0])), (q10, .inl (cA11, 60, .inl (fun _ => 0))), (q12, .inr (4, [.null, .int 0, .int 0, .int 0]))] := hD
  refine lv_dup hx hb di_6_27 rfl ?_
  have hPc := hP.sub (ws' := [(q12, .inr (4, [.null, .int 0, .int 0, .int 0]))]) [8] rfl
  have hDc := hD.sub (ws' := [(q12, .inr (4, [.null, .int 0, .int 0, .int 0]))]) [8] (by decide) rfl
  have hKc := hK.sub (tys' := []) [] rfl
  have hFc := va_free (wc := [(q12, .inr (4, [.null, .int 0, .int 0, .int 0]))]) hD hS hA [8] rfl
  refine va_callv (va_runIN (As := []) (rest := [.ref q12, .int (3 : Int32), .ref q1]) ⟨hx, hb, hml, hown, htb⟩ (c_X4 l D q12 H.size) ⟨va_cnB 0 htb (wg wc_code_4) rfl rfl rfl hN.1 (htb _ wc_ini_4) ⟨by decide +kernel, by decide +kernel, by decide +kernel⟩ ⟨Nat.le_of_ble_eq_true rfl, Nat.le_of_ble_eq_true rfl⟩, rfl, htb _ wc_inst_4⟩ ⟨fun a U g mk q => by obtain ⟨q0, q1, qP, qK, qD⟩ := q; exact ⟨q0, q1, qP, va_K.moved (u := U) (U := U.calling g mk a) (Vm.Alike.refl U.vm) qK, qD⟩, fun U hU hW => ⟨rfl, by rw [hU], by rw [hU]; exact hPc, va_K.moved hW.alike hKc, hDc.weaken (fun _ _ _ _ => trivial)⟩⟩ rfl rfl hl.1 rfl (lv_room (Nat.le_of_ble_eq_true rfl)) di_6_28 ⟨Nat.le_of_ble_eq_true rfl, Nat.le_of_ble_eq_true rfl⟩) hS (fun q _ h => hFc q h) hFc (fun u t H1 locs ht hvm hw hB hz1 hk1 hS => ?_)
  obtain ⟨q13, cA14, hP1, hK1, hD1⟩ := hB
  rw [ht] at hP1
  have hK1 := va_K.moved hvm.symm hK1
  obtain ⟨hP, hD⟩ := va_join (wr := [(h0, .inr (6, [.ref q1, .null, .null, .null, .null, .null, .null, .null, .null, .int 0, .int 0])), (q1, .inl (cA2, 4, .inr (.inr (.inr (.inr (va_up (va_up (va_up (fun _ => none) 0 (some q3)) 1 (some q6)) 2 (some q9))))))), (q3, .inr (4, [.ref q4, .int 0, .int 0, .int 0])), (q4, .inl (cA5, 60, .inl (fun _ => 0))), (q6, .inr (4, [.ref q7, .int 0, .int 0, .int 0])), (q7, .inl (cA8, 60, .inl (fun _ => 0))), (q9, .inr (4, [.ref q10, .int 0, .int 0, .int 0])), (q10, .inl (cA11, 60, .inl (fun _ => 0)))]) (w1 := [(q12, .inr (4, [.ref q13, .int 0, .int 0, .int 0])), (q13, .inl (cA14, 60, .inl (fun _ => 0)))]) hP hD [8] [0, 1, 2, 3, 4, 5, 6, 7] rfl rfl (by decide) (by decide) hk1 hFc hP1 hD1
  have hK := (hK.sub (tys' := [(cA2, .object "PondRings$Sheet"), (cA5, .int), (cA8, .int), (cA11, .int)]) [0, 1, 2, 3] rfl).app hK1
  generalize H1 = H at hP hS ⊢
  have hP : va_P D mm_K [(h0, .inr (6, [.ref q1, .null, .null, .null, .null, .null, .null, .null, .null, .int 0, .int 0])), (q1, .inl (cA2, 4, .inr (.inr (.inr (.inr (va_up (va_up (va_up (fun _ => none) 0 (some q3)) 1 (some q6)) 2 (some q9))))))), (q3, .inr (4, [.ref q4, .int 0, .int 0, .int 0])), (q4, .inl (cA5, 60, .inl (fun _ => 0))), (q6, .inr (4, [.ref q7, .int 0, .int 0, .int 0])), (q7, .inl (cA8, 60, .inl (fun _ => 0))), (q9, .inr (4, [.ref q10, .int 0, .int 0, .int 0])), (q10, .inl (cA11, 60, .inl (fun _ => 0))), (q12, .inr (4, [.ref q13, .int 0, .int 0, .int 0])), (q13, .inl (cA14, 60, .inl (fun _ => 0)))] H := hP
  have hD : va_D A [(h0, .inr (6, [.ref q1, .null, .null, .null, .null, .null, .null, .null, .null, .int 0, .int 0])), (q1, .inl (cA2, 4, .inr (.inr (.inr (.inr (va_up (va_up (va_up (fun _ => none) 0 (some q3)) 1 (some q6)) 2 (some q9))))))), (q3, .inr (4, [.ref q4, .int 0, .int 0, .int 0])), (q4, .inl (cA5, 60, .inl (fun _ => 0))), (q6, .inr (4, [.ref q7, .int 0, .int 0, .int 0])), (q7, .inl (cA8, 60, .inl (fun _ => 0))), (q9, .inr (4, [.ref q10, .int 0, .int 0, .int 0])), (q10, .inl (cA11, 60, .inl (fun _ => 0))), (q12, .inr (4, [.ref q13, .int 0, .int 0, .int 0])), (q13, .inl (cA14, 60, .inl (fun _ => 0)))] := hD
  have hK : va_K D mm_K [(cA2, .object "PondRings$Sheet"), (cA5, .int), (cA8, .int), (cA11, .int), (cA14, .int)] s := hK
  refine va_astq (D := D) (r := (RX4, TX4, 4)) hx hb hK hP hD hS 1 0 8 4 rfl rfl rfl rfl (i := (3 : Int32)) (by unfold vp_in; decide) di_6_31 (fun H locs hP hD hS => ?_)
  have hP : va_P D mm_K [(h0, .inr (6, [.ref q1, .null, .null, .null, .null, .null, .null, .null, .null, .int 0, .int 0])), (q1, .inl (cA2, 4, .inr (.inr (.inr (.inr (va_up (va_up (va_up (va_up (fun _ => none) 0 (some q3)) 1 (some q6)) 2 (some q9)) 3 (some q12))))))), (q3, .inr (4, [.ref q4, .int 0, .int 0, .int 0])), (q4, .inl (cA5, 60, .inl (fun _ => 0))), (q6, .inr (4, [.ref q7, .int 0, .int 0, .int 0])), (q7, .inl (cA8, 60, .inl (fun _ => 0))), (q9, .inr (4, [.ref q10, .int 0, .int 0, .int 0])), (q10, .inl (cA11, 60, .inl (fun _ => 0))), (q12, .inr (4, [.ref q13, .int 0, .int 0, .int 0])), (q13, .inl (cA14, 60, .inl (fun _ => 0)))] H := hP
  have hD : va_D A [(h0, .inr (6, [.ref q1, .null, .null, .null, .null, .null, .null, .null, .null, .int 0, .int 0])), (q1, .inl (cA2, 4, .inr (.inr (.inr (.inr (va_up (va_up (va_up (va_up (fun _ => none) 0 (some q3)) 1 (some q6)) 2 (some q9)) 3 (some q12))))))), (q3, .inr (4, [.ref q4, .int 0, .int 0, .int 0])), (q4, .inl (cA5, 60, .inl (fun _ => 0))), (q6, .inr (4, [.ref q7, .int 0, .int 0, .int 0])), (q7, .inl (cA8, 60, .inl (fun _ => 0))), (q9, .inr (4, [.ref q10, .int 0, .int 0, .int 0])), (q10, .inl (cA11, 60, .inl (fun _ => 0))), (q12, .inr (4, [.ref q13, .int 0, .int 0, .int 0])), (q13, .inl (cA14, 60, .inl (fun _ => 0)))] := hD
  refine lv_iinc (v := 4) (lv' := [(1, .int (4 : Int32)), (0, .ref h0)]) hx hb di_6_32 hl (k := 0) rfl (by decide) (by decide) rfl (fun ls hl => ?_)
  refine lv_goto (tgt := 14) hx hb di_6_35 (by decide) ?_
  refine lv_iload_n hx hb di_6_14 rfl (lv_at hl 0 rfl) ?_
  refine lv_iconst (v := 4) hx hb di_6_15 (by decide) ?_
  refine lv_icmp_ge (tgt := 38) hx hb di_6_16 (by decide) (fun _ => ?_) (fun z => absurd (by decide) z)
  refine lv_aload_n hx hb di_6_38 rfl (lv_at hl 1 rfl) ?_
  refine va_new (ci := 3) (fs := [.int 0, .int 0, .long 0]) (C := RX3) (T := TX3) (N := 3) hx hb htb mu_3 tyX3 tyX3_ok hown (htb _ wl_6_18) (htb _ wc_able_3) (htb _ wc_ini_3) hK hP hD hS hA rfl md_3 (Nat.le_of_ble_eq_true rfl) (Nat.le_of_ble_eq_true rfl) di_6_39 (fun q15 H hP hD hS => ?_)
  have hP : va_P D mm_K [(h0, .inr (6, [.ref q1, .null, .null, .null, .null, .null, .null, .null, .null, .int 0, .int 0])), (q1, .inl (cA2, 4, .inr (.inr (.inr (.inr (va_up (va_up (va_up (va_up (fun _ => none) 0 (some q3)) 1 (some q6)) 2 (some q9)) 3 (some q12))))))), (q3, .inr (4, [.ref q4, .int 0, .int 0, .int 0])), (q4, .inl (cA5, 60, .inl (fun _ => 0))), (q6, .inr (4, [.ref q7, .int 0, .int 0, .int 0])), (q7, .inl (cA8, 60, .inl (fun _ => 0))), (q9, .inr (4, [.ref q10, .int 0, .int 0, .int 0])), (q10, .inl (cA11, 60, .inl (fun _ => 0))), (q12, .inr (4, [.ref q13, .int 0, .int 0, .int 0])), (q13, .inl (cA14, 60, .inl (fun _ => 0))), (q15, .inr (3, [.int 0, .int 0, .long 0]))] H := hP
  have hD : va_D A [(h0, .inr (6, [.ref q1, .null, .null, .null, .null, .null, .null, .null, .null, .int 0, .int 0])), (q1, .inl (cA2, 4, .inr (.inr (.inr (.inr (va_up (va_up (va_up (va_up (fun _ => none) 0 (some q3)) 1 (some q6)) 2 (some q9)) 3 (some q12))))))), (q3, .inr (4, [.ref q4, .int 0, .int 0, .int 0])), (q4, .inl (cA5, 60, .inl (fun _ => 0))), (q6, .inr (4, [.ref q7, .int 0, .int 0, .int 0])), (q7, .inl (cA8, 60, .inl (fun _ => 0))), (q9, .inr (4, [.ref q10, .int 0, .int 0, .int 0])), (q10, .inl (cA11, 60, .inl (fun _ => 0))), (q12, .inr (4, [.ref q13, .int 0, .int 0, .int 0])), (q13, .inl (cA14, 60, .inl (fun _ => 0))), (q15, .inr (3, [.int 0, .int 0, .long 0]))] := hD
  refine lv_dup hx hb di_6_42 rfl ?_
  have hPc := hP.sub (ws' := [(q15, .inr (3, [.int 0, .int 0, .long 0]))]) [10] rfl
  have hDc := hD.sub (ws' := [(q15, .inr (3, [.int 0, .int 0, .long 0]))]) [10] (by decide) rfl
  have hKc := hK.sub (tys' := []) [] rfl
  have hFc := va_free (wc := [(q15, .inr (3, [.int 0, .int 0, .long 0]))]) hD hS hA [10] rfl
  refine va_callv (va_runIN (As := []) (rest := [.ref q15, .ref h0]) ⟨hx, hb, hml, hown, htb⟩ (c_X3 l D q15 H.size) ⟨va_cnB 0 htb (wg wc_code_3) rfl rfl rfl hN.2.1 (htb _ wc_ini_3) ⟨by decide +kernel, by decide +kernel, by decide +kernel⟩ ⟨Nat.le_of_ble_eq_true rfl, Nat.le_of_ble_eq_true rfl⟩, rfl, htb _ wc_inst_3⟩ ⟨fun a U g mk q => by obtain ⟨q0, q1, qP, qK, qD⟩ := q; exact ⟨q0, q1, qP, va_K.moved (u := U) (U := U.calling g mk a) (Vm.Alike.refl U.vm) qK, qD⟩, fun U hU hW => ⟨rfl, by rw [hU], by rw [hU]; exact hPc, va_K.moved hW.alike hKc, hDc.weaken (fun _ _ _ _ => trivial)⟩⟩ rfl rfl hl.1 rfl (lv_room (Nat.le_of_ble_eq_true rfl)) di_6_43 ⟨Nat.le_of_ble_eq_true rfl, Nat.le_of_ble_eq_true rfl⟩) hS (fun q _ h => hFc q h) hFc (fun u t H1 locs ht hvm hw hB hz1 hk1 hS => ?_)
  obtain ⟨hP1, hK1, hD1⟩ := hB
  rw [ht] at hP1
  have hK1 := va_K.moved hvm.symm hK1
  obtain ⟨hP, hD⟩ := va_join (wr := [(h0, .inr (6, [.ref q1, .null, .null, .null, .null, .null, .null, .null, .null, .int 0, .int 0])), (q1, .inl (cA2, 4, .inr (.inr (.inr (.inr (va_up (va_up (va_up (va_up (fun _ => none) 0 (some q3)) 1 (some q6)) 2 (some q9)) 3 (some q12))))))), (q3, .inr (4, [.ref q4, .int 0, .int 0, .int 0])), (q4, .inl (cA5, 60, .inl (fun _ => 0))), (q6, .inr (4, [.ref q7, .int 0, .int 0, .int 0])), (q7, .inl (cA8, 60, .inl (fun _ => 0))), (q9, .inr (4, [.ref q10, .int 0, .int 0, .int 0])), (q10, .inl (cA11, 60, .inl (fun _ => 0))), (q12, .inr (4, [.ref q13, .int 0, .int 0, .int 0])), (q13, .inl (cA14, 60, .inl (fun _ => 0)))]) (w1 := [(q15, .inr (3, [.int 0, .int 0, .long 0]))]) hP hD [10] [0, 1, 2, 3, 4, 5, 6, 7, 8, 9] rfl rfl (by decide) (by decide) hk1 hFc hP1 hD1
  have hK := (hK.sub (tys' := [(cA2, .object "PondRings$Sheet"), (cA5, .int), (cA8, .int), (cA11, .int), (cA14, .int)]) [0, 1, 2, 3, 4] rfl).app hK1
  generalize H1 = H at hP hS ⊢
  have hP : va_P D mm_K [(h0, .inr (6, [.ref q1, .null, .null, .null, .null, .null, .null, .null, .null, .int 0, .int 0])), (q1, .inl (cA2, 4, .inr (.inr (.inr (.inr (va_up (va_up (va_up (va_up (fun _ => none) 0 (some q3)) 1 (some q6)) 2 (some q9)) 3 (some q12))))))), (q3, .inr (4, [.ref q4, .int 0, .int 0, .int 0])), (q4, .inl (cA5, 60, .inl (fun _ => 0))), (q6, .inr (4, [.ref q7, .int 0, .int 0, .int 0])), (q7, .inl (cA8, 60, .inl (fun _ => 0))), (q9, .inr (4, [.ref q10, .int 0, .int 0, .int 0])), (q10, .inl (cA11, 60, .inl (fun _ => 0))), (q12, .inr (4, [.ref q13, .int 0, .int 0, .int 0])), (q13, .inl (cA14, 60, .inl (fun _ => 0))), (q15, .inr (3, [.int 0, .int 0, .long 0]))] H := hP
  have hD : va_D A [(h0, .inr (6, [.ref q1, .null, .null, .null, .null, .null, .null, .null, .null, .int 0, .int 0])), (q1, .inl (cA2, 4, .inr (.inr (.inr (.inr (va_up (va_up (va_up (va_up (fun _ => none) 0 (some q3)) 1 (some q6)) 2 (some q9)) 3 (some q12))))))), (q3, .inr (4, [.ref q4, .int 0, .int 0, .int 0])), (q4, .inl (cA5, 60, .inl (fun _ => 0))), (q6, .inr (4, [.ref q7, .int 0, .int 0, .int 0])), (q7, .inl (cA8, 60, .inl (fun _ => 0))), (q9, .inr (4, [.ref q10, .int 0, .int 0, .int 0])), (q10, .inl (cA11, 60, .inl (fun _ => 0))), (q12, .inr (4, [.ref q13, .int 0, .int 0, .int 0])), (q13, .inl (cA14, 60, .inl (fun _ => 0))), (q15, .inr (3, [.int 0, .int 0, .long 0]))] := hD
  have hK : va_K D mm_K [(cA2, .object "PondRings$Sheet"), (cA5, .int), (cA8, .int), (cA11, .int), (cA14, .int)] s := hK
  refine va_putF (D := D) (ci := 6) (v := .ref q15) (ty := .object "PondRings$PondText") (C := RX6) (T := TX6) (N := 11) hx hb htb mu_6 tyX6 tyX6_ok nmX6 hown hK hP hD hS 0 rfl rfl 1 (by decide) (htb _ wf_6_21) (fun _ h9 => h9) rfl hin rfl (by decide +kernel) rfl rfl (Nat.le_of_ble_eq_true rfl) di_6_46 (fun H locs hP hD hS => ?_)
  have hP : va_P D mm_K [(h0, .inr (6, [.ref q1, .ref q15, .null, .null, .null, .null, .null, .null, .null, .int 0, .int 0])), (q1, .inl (cA2, 4, .inr (.inr (.inr (.inr (va_up (va_up (va_up (va_up (fun _ => none) 0 (some q3)) 1 (some q6)) 2 (some q9)) 3 (some q12))))))), (q3, .inr (4, [.ref q4, .int 0, .int 0, .int 0])), (q4, .inl (cA5, 60, .inl (fun _ => 0))), (q6, .inr (4, [.ref q7, .int 0, .int 0, .int 0])), (q7, .inl (cA8, 60, .inl (fun _ => 0))), (q9, .inr (4, [.ref q10, .int 0, .int 0, .int 0])), (q10, .inl (cA11, 60, .inl (fun _ => 0))), (q12, .inr (4, [.ref q13, .int 0, .int 0, .int 0])), (q13, .inl (cA14, 60, .inl (fun _ => 0))), (q15, .inr (3, [.int 0, .int 0, .long 0]))] H := hP
  have hD : va_D A [(h0, .inr (6, [.ref q1, .ref q15, .null, .null, .null, .null, .null, .null, .null, .int 0, .int 0])), (q1, .inl (cA2, 4, .inr (.inr (.inr (.inr (va_up (va_up (va_up (va_up (fun _ => none) 0 (some q3)) 1 (some q6)) 2 (some q9)) 3 (some q12))))))), (q3, .inr (4, [.ref q4, .int 0, .int 0, .int 0])), (q4, .inl (cA5, 60, .inl (fun _ => 0))), (q6, .inr (4, [.ref q7, .int 0, .int 0, .int 0])), (q7, .inl (cA8, 60, .inl (fun _ => 0))), (q9, .inr (4, [.ref q10, .int 0, .int 0, .int 0])), (q10, .inl (cA11, 60, .inl (fun _ => 0))), (q12, .inr (4, [.ref q13, .int 0, .int 0, .int 0])), (q13, .inl (cA14, 60, .inl (fun _ => 0))), (q15, .inr (3, [.int 0, .int 0, .long 0]))] := hD
  refine lv_aload_n hx hb di_6_49 rfl (lv_at hl 1 rfl) ?_
  refine va_new (ci := 2) (fs := [.null, .null, .long 0, .long 0, .long 0, .int 0, .int 0, .long 0]) (C := RX2) (T := TX2) (N := 8) hx hb htb mu_2 tyX2 tyX2_ok hown (htb _ wl_6_25) (htb _ wc_able_2) (htb _ wc_ini_2) hK hP hD hS hA rfl md_2 (Nat.le_of_ble_eq_true rfl) (Nat.le_of_ble_eq_true rfl) di_6_50 (fun q16 H hP hD hS => ?_)
  have hP : va_P D mm_K [(h0, .inr (6, [.ref q1, .ref q15, .null, .null, .null, .null, .null, .null, .null, .int 0, .int 0])), (q1, .inl (cA2, 4, .inr (.inr (.inr (.inr (va_up (va_up (va_up (va_up (fun _ => none) 0 (some q3)) 1 (some q6)) 2 (some q9)) 3 (some q12))))))), (q3, .inr (4, [.ref q4, .int 0, .int 0, .int 0])), (q4, .inl (cA5, 60, .inl (fun _ => 0))), (q6, .inr (4, [.ref q7, .int 0, .int 0, .int 0])), (q7, .inl (cA8, 60, .inl (fun _ => 0))), (q9, .inr (4, [.ref q10, .int 0, .int 0, .int 0])), (q10, .inl (cA11, 60, .inl (fun _ => 0))), (q12, .inr (4, [.ref q13, .int 0, .int 0, .int 0])), (q13, .inl (cA14, 60, .inl (fun _ => 0))), (q15, .inr (3, [.int 0, .int 0, .long 0])), (q16, .inr (2, [.null, .null, .long 0, .long 0, .long 0, .int 0, .int 0, .long 0]))] H := hP
  have hD : va_D A [(h0, .inr (6, [.ref q1, .ref q15, .null, .null, .null, .null, .null, .null, .null, .int 0, .int 0])), (q1, .inl (cA2, 4, .inr (.inr (.inr (.inr (va_up (va_up (va_up (va_up (fun _ => none) 0 (some q3)) 1 (some q6)) 2 (some q9)) 3 (some q12))))))), (q3, .inr (4, [.ref q4, .int 0, .int 0, .int 0])), (q4, .inl (cA5, 60, .inl (fun _ => 0))), (q6, .inr (4, [.ref q7, .int 0, .int 0, .int 0])), (q7, .inl (cA8, 60, .inl (fun _ => 0))), (q9, .inr (4, [.ref q10, .int 0, .int 0, .int 0])), (q10, .inl (cA11, 60, .inl (fun _ => 0))), (q12, .inr (4, [.ref q13, .int 0, .int 0, .int 0])), (q13, .inl (cA14, 60, .inl (fun _ => 0))), (q15, .inr (3, [.int 0, .int 0, .long 0])), (q16, .inr (2, [.null, .null, .long 0, .long 0, .long 0, .int 0, .int 0, .long 0]))] := hD
  refine lv_dup hx hb di_6_53 rfl ?_
  have hPc := hP.sub (ws' := [(q16, .inr (2, [.null, .null, .long 0, .long 0, .long 0, .int 0, .int 0, .long 0]))]) [11] rfl
  have hDc := hD.sub (ws' := [(q16, .inr (2, [.null, .null, .long 0, .long 0, .long 0, .int 0, .int 0, .long 0]))]) [11] (by decide) rfl
  have hKc := hK.sub (tys' := []) [] rfl
  have hFc := va_free (wc := [(q16, .inr (2, [.null, .null, .long 0, .long 0, .long 0, .int 0, .int 0, .long 0]))]) hD hS hA [11] rfl
  refine va_callv (va_runIN (As := []) (rest := [.ref q16, .ref h0]) ⟨hx, hb, hml, hown, htb⟩ (c_X2 l D q16 H.size) ⟨va_cnB 0 htb (wg wc_code_2) rfl rfl rfl hN.2.2.1 (htb _ wc_ini_2) ⟨by decide +kernel, by decide +kernel, by decide +kernel⟩ ⟨Nat.le_of_ble_eq_true rfl, Nat.le_of_ble_eq_true rfl⟩, rfl, htb _ wc_inst_2⟩ ⟨fun a U g mk q => by obtain ⟨q0, q1, qP, qK, qD⟩ := q; exact ⟨q0, q1, qP, va_K.moved (u := U) (U := U.calling g mk a) (Vm.Alike.refl U.vm) qK, qD⟩, fun U hU hW => ⟨rfl, by rw [hU], by rw [hU]; exact hPc, va_K.moved hW.alike hKc, hDc.weaken (fun _ _ _ _ => trivial)⟩⟩ rfl rfl hl.1 rfl (lv_room (Nat.le_of_ble_eq_true rfl)) di_6_54 ⟨Nat.le_of_ble_eq_true rfl, Nat.le_of_ble_eq_true rfl⟩) hS (fun q _ h => hFc q h) hFc (fun u t H1 locs ht hvm hw hB hz1 hk1 hS => ?_)
  obtain ⟨q17, q18, cA19, cA20, hP1, hK1, hD1⟩ := hB
  rw [ht] at hP1
  have hK1 := va_K.moved hvm.symm hK1
  obtain ⟨hP, hD⟩ := va_join (wr := [(h0, .inr (6, [.ref q1, .ref q15, .null, .null, .null, .null, .null, .null, .null, .int 0, .int 0])), (q1, .inl (cA2, 4, .inr (.inr (.inr (.inr (va_up (va_up (va_up (va_up (fun _ => none) 0 (some q3)) 1 (some q6)) 2 (some q9)) 3 (some q12))))))), (q3, .inr (4, [.ref q4, .int 0, .int 0, .int 0])), (q4, .inl (cA5, 60, .inl (fun _ => 0))), (q6, .inr (4, [.ref q7, .int 0, .int 0, .int 0])), (q7, .inl (cA8, 60, .inl (fun _ => 0))), (q9, .inr (4, [.ref q10, .int 0, .int 0, .int 0])), (q10, .inl (cA11, 60, .inl (fun _ => 0))), (q12, .inr (4, [.ref q13, .int 0, .int 0, .int 0])), (q13, .inl (cA14, 60, .inl (fun _ => 0))), (q15, .inr (3, [.int 0, .int 0, .long 0]))]) (w1 := [(q16, .inr (2, [.ref q17, .ref q18, .long 0, .long 0, .long 0, .int 0, .int 0, .long 0])), (q17, .inl (cA19, 1764, .inr (.inl (fun _ => 0)))), (q18, .inl (cA20, 42, .inl (fun _ => 0)))]) hP hD [11] [0, 1, 2, 3, 4, 5, 6, 7, 8, 9, 10] rfl rfl (by decide) (by decide) hk1 hFc hP1 hD1
  have hK := (hK.sub (tys' := [(cA2, .object "PondRings$Sheet"), (cA5, .int), (cA8, .int), (cA11, .int), (cA14, .int)]) [0, 1, 2, 3, 4] rfl).app hK1
  generalize H1 = H at hP hS ⊢
  have hP : va_P D mm_K [(h0, .inr (6, [.ref q1, .ref q15, .null, .null, .null, .null, .null, .null, .null, .int 0, .int 0])), (q1, .inl (cA2, 4, .inr (.inr (.inr (.inr (va_up (va_up (va_up (va_up (fun _ => none) 0 (some q3)) 1 (some q6)) 2 (some q9)) 3 (some q12))))))), (q3, .inr (4, [.ref q4, .int 0, .int 0, .int 0])), (q4, .inl (cA5, 60, .inl (fun _ => 0))), (q6, .inr (4, [.ref q7, .int 0, .int 0, .int 0])), (q7, .inl (cA8, 60, .inl (fun _ => 0))), (q9, .inr (4, [.ref q10, .int 0, .int 0, .int 0])), (q10, .inl (cA11, 60, .inl (fun _ => 0))), (q12, .inr (4, [.ref q13, .int 0, .int 0, .int 0])), (q13, .inl (cA14, 60, .inl (fun _ => 0))), (q15, .inr (3, [.int 0, .int 0, .long 0])), (q16, .inr (2, [.ref q17, .ref q18, .long 0, .long 0, .long 0, .int 0, .int 0, .long 0])), (q17, .inl (cA19, 1764, .inr (.inl (fun _ => 0)))), (q18, .inl (cA20, 42, .inl (fun _ => 0)))] H := hP
  have hD : va_D A [(h0, .inr (6, [.ref q1, .ref q15, .null, .null, .null, .null, .null, .null, .null, .int 0, .int 0])), (q1, .inl (cA2, 4, .inr (.inr (.inr (.inr (va_up (va_up (va_up (va_up (fun _ => none) 0 (some q3)) 1 (some q6)) 2 (some q9)) 3 (some q12))))))), (q3, .inr (4, [.ref q4, .int 0, .int 0, .int 0])), (q4, .inl (cA5, 60, .inl (fun _ => 0))), (q6, .inr (4, [.ref q7, .int 0, .int 0, .int 0])), (q7, .inl (cA8, 60, .inl (fun _ => 0))), (q9, .inr (4, [.ref q10, .int 0, .int 0, .int 0])), (q10, .inl (cA11, 60, .inl (fun _ => 0))), (q12, .inr (4, [.ref q13, .int 0, .int 0, .int 0])), (q13, .inl (cA14, 60, .inl (fun _ => 0))), (q15, .inr (3, [.int 0, .int 0, .long 0])), (q16, .inr (2, [.ref q17, .ref q18, .long 0, .long 0, .long 0, .int 0, .int 0, .long 0])), (q17, .inl (cA19, 1764, .inr (.inl (fun _ => 0)))), (q18, .inl (cA20, 42, .inl (fun _ => 0)))] := hD
  have hK : va_K D mm_K [(cA2, .object "PondRings$Sheet"), (cA5, .int), (cA8, .int), (cA11, .int), (cA14, .int), (cA19, .long), (cA20, .int)] s := hK
  refine va_putF (D := D) (ci := 6) (v := .ref q16) (ty := .object "PondRings$Pond") (C := RX6) (T := TX6) (N := 11) hx hb htb mu_6 tyX6 tyX6_ok nmX6 hown hK hP hD hS 0 rfl rfl 2 (by decide) (htb _ wf_6_28) (fun _ h9 => h9) rfl hin rfl (by decide +kernel) rfl rfl (Nat.le_of_ble_eq_true rfl) di_6_57 (fun H locs hP hD hS => ?_)
  have hP : va_P D mm_K [(h0, .inr (6, [.ref q1, .ref q15, .ref q16, .null, .null, .null, .null, .null, .null, .int 0, .int 0])), (q1, .inl (cA2, 4, .inr (.inr (.inr (.inr (va_up (va_up (va_up (va_up (fun _ => none) 0 (some q3)) 1 (some q6)) 2 (some q9)) 3 (some q12))))))), (q3, .inr (4, [.ref q4, .int 0, .int 0, .int 0])), (q4, .inl (cA5, 60, .inl (fun _ => 0))), (q6, .inr (4, [.ref q7, .int 0, .int 0, .int 0])), (q7, .inl (cA8, 60, .inl (fun _ => 0))), (q9, .inr (4, [.ref q10, .int 0, .int 0, .int 0])), (q10, .inl (cA11, 60, .inl (fun _ => 0))), (q12, .inr (4, [.ref q13, .int 0, .int 0, .int 0])), (q13, .inl (cA14, 60, .inl (fun _ => 0))), (q15, .inr (3, [.int 0, .int 0, .long 0])), (q16, .inr (2, [.ref q17, .ref q18, .long 0, .long 0, .long 0, .int 0, .int 0, .long 0])), (q17, .inl (cA19, 1764, .inr (.inl (fun _ => 0)))), (q18, .inl (cA20, 42, .inl (fun _ => 0)))] H := hP
  have hD : va_D A [(h0, .inr (6, [.ref q1, .ref q15, .ref q16, .null, .null, .null, .null, .null, .null, .int 0, .int 0])), (q1, .inl (cA2, 4, .inr (.inr (.inr (.inr (va_up (va_up (va_up (va_up (fun _ => none) 0 (some q3)) 1 (some q6)) 2 (some q9)) 3 (some q12))))))), (q3, .inr (4, [.ref q4, .int 0, .int 0, .int 0])), (q4, .inl (cA5, 60, .inl (fun _ => 0))), (q6, .inr (4, [.ref q7, .int 0, .int 0, .int 0])), (q7, .inl (cA8, 60, .inl (fun _ => 0))), (q9, .inr (4, [.ref q10, .int 0, .int 0, .int 0])), (q10, .inl (cA11, 60, .inl (fun _ => 0))), (q12, .inr (4, [.ref q13, .int 0, .int 0, .int 0])), (q13, .inl (cA14, 60, .inl (fun _ => 0))), (q15, .inr (3, [.int 0, .int 0, .long 0])), (q16, .inr (2, [.ref q17, .ref q18, .long 0, .long 0, .long 0, .int 0, .int 0, .long 0])), (q17, .inl (cA19, 1764, .inr (.inl (fun _ => 0)))), (q18, .inl (cA20, 42, .inl (fun _ => 0)))] := hD
  refine lv_aload_n hx hb di_6_60 rfl (lv_at hl 1 rfl) ?_
  refine va_new (ci := 0) (fs := [.null, .null, .null, .int 0]) (C := RX0) (T := TX0) (N := 4) hx hb htb mu_0 tyX0 tyX0_ok hown (htb _ wl_6_32) (htb _ wc_able_0) (htb _ wc_ini_0) hK hP hD hS hA rfl md_0 (Nat.le_of_ble_eq_true rfl) (Nat.le_of_ble_eq_true rfl) di_6_61 (fun q21 H hP hD hS => ?_)
  have hP : va_P D mm_K [(h0, .inr (6, [.ref q1, .ref q15, .ref q16, .null, .null, .null, .null, .null, .null, .int 0, .int 0])), (q1, .inl (cA2, 4, .inr (.inr (.inr (.inr (va_up (va_up (va_up (va_up (fun _ => none) 0 (some q3)) 1 (some q6)) 2 (some q9)) 3 (some q12))))))), (q3, .inr (4, [.ref q4, .int 0, .int 0, .int 0])), (q4, .inl (cA5, 60, .inl (fun _ => 0))), (q6, .inr (4, [.ref q7, .int 0, .int 0, .int 0])), (q7, .inl (cA8, 60, .inl (fun _ => 0))), (q9, .inr (4, [.ref q10, .int 0, .int 0, .int 0])), (q10, .inl (cA11, 60, .inl (fun _ => 0))), (q12, .inr (4, [.ref q13, .int 0, .int 0, .int 0])), (q13, .inl (cA14, 60, .inl (fun _ => 0))), (q15, .inr (3, [.int 0, .int 0, .long 0])), (q16, .inr (2, [.ref q17, .ref q18, .long 0, .long 0, .long 0, .int 0, .int 0, .long 0])), (q17, .inl (cA19, 1764, .inr (.inl (fun _ => 0)))), (q18, .inl (cA20, 42, .inl (fun _ => 0))), (q21, .inr (0, [.null, .null, .null, .int 0]))] H := hP
  have hD : va_D A [(h0, .inr (6, [.ref q1, .ref q15, .ref q16, .null, .null, .null, .null, .null, .null, .int 0, .int 0])), (q1, .inl (cA2, 4, .inr (.inr (.inr (.inr (va_up (va_up (va_up (va_up (fun _ => none) 0 (some q3)) 1 (some q6)) 2 (some q9)) 3 (some q12))))))), (q3, .inr (4, [.ref q4, .int 0, .int 0, .int 0])), (q4, .inl (cA5, 60, .inl (fun _ => 0))), (q6, .inr (4, [.ref q7, .int 0, .int 0, .int 0])), (q7, .inl (cA8, 60, .inl (fun _ => 0))), (q9, .inr (4, [.ref q10, .int 0, .int 0, .int 0])), (q10, .inl (cA11, 60, .inl (fun _ => 0))), (q12, .inr (4, [.ref q13, .int 0, .int 0, .int 0])), (q13, .inl (cA14, 60, .inl (fun _ => 0))), (q15, .inr (3, [.int 0, .int 0, .long 0])), (q16, .inr (2, [.ref q17, .ref q18, .long 0, .long 0, .long 0, .int 0, .int 0, .long 0])), (q17, .inl (cA19, 1764, .inr (.inl (fun _ => 0)))), (q18, .inl (cA20, 42, .inl (fun _ => 0))), (q21, .inr (0, [.null, .null, .null, .int 0]))] := hD
  refine lv_dup hx hb di_6_64 rfl ?_
  refine lv_bipush (v := 8) hx hb di_6_65 (by decide) ?_
  have hPc := hP.sub (ws' := [(q21, .inr (0, [.null, .null, .null, .int 0]))]) [14] rfl
  have hDc := hD.sub (ws' := [(q21, .inr (0, [.null, .null, .null, .int 0]))]) [14] (by decide) rfl
  have hKc := hK.sub (tys' := []) [] rfl
  have hFc := va_free (wc := [(q21, .inr (0, [.null, .null, .null, .int 0]))]) hD hS hA [14] rfl
  refine va_callv (va_runI (As := [.int (8 : Int32)]) (rest := [.ref q21, .ref h0]) ⟨hx, hb, hml, hown, htb⟩ (c_X0_8 l D q21 H.size) (cwI 1 htb (wg wc_code_0) rfl rfl rfl (htb _ wc_ini_0) (htb _ wm_6_34) (htb _ wc_inst_0) rfl ⟨by decide +kernel, by decide +kernel, by decide +kernel⟩ ⟨Nat.le_of_ble_eq_true rfl, Nat.le_of_ble_eq_true rfl⟩) ⟨fun a U g mk q => by obtain ⟨q0, q1, qP, qK, qD⟩ := q; exact ⟨q0, q1, qP, va_K.moved (u := U) (U := U.calling g mk a) (Vm.Alike.refl U.vm) qK, qD⟩, fun U hU hW => ⟨rfl, by rw [hU], by rw [hU]; exact hPc, va_K.moved hW.alike hKc, hDc.weaken (fun _ _ _ _ => trivial)⟩⟩ rfl rfl hl.1 rfl (lv_room (Nat.le_of_ble_eq_true rfl)) di_6_67 ⟨Nat.le_of_ble_eq_true rfl, Nat.le_of_ble_eq_true rfl⟩) hS (fun q _ h => hFc q h) hFc (fun u t H1 locs ht hvm hw hB hz1 hk1 hS => ?_)
  obtain ⟨q22, q23, q24, cA25, cA26, cA27, hP1, hK1, hD1⟩ := hB
  rw [ht] at hP1
  have hK1 := va_K.moved hvm.symm hK1
  obtain ⟨hP, hD⟩ := va_join (wr := [(h0, .inr (6, [.ref q1, .ref q15, .ref q16, .null, .null, .null, .null, .null, .null, .int 0, .int 0])), (q1, .inl (cA2, 4, .inr (.inr (.inr (.inr (va_up (va_up (va_up (va_up (fun _ => none) 0 (some q3)) 1 (some q6)) 2 (some q9)) 3 (some q12))))))), (q3, .inr (4, [.ref q4, .int 0, .int 0, .int 0])), (q4, .inl (cA5, 60, .inl (fun _ => 0))), (q6, .inr (4, [.ref q7, .int 0, .int 0, .int 0])), (q7, .inl (cA8, 60, .inl (fun _ => 0))), (q9, .inr (4, [.ref q10, .int 0, .int 0, .int 0])), (q10, .inl (cA11, 60, .inl (fun _ => 0))), (q12, .inr (4, [.ref q13, .int 0, .int 0, .int 0])), (q13, .inl (cA14, 60, .inl (fun _ => 0))), (q15, .inr (3, [.int 0, .int 0, .long 0])), (q16, .inr (2, [.ref q17, .ref q18, .long 0, .long 0, .long 0, .int 0, .int 0, .long 0])), (q17, .inl (cA19, 1764, .inr (.inl (fun _ => 0)))), (q18, .inl (cA20, 42, .inl (fun _ => 0)))]) (w1 := [(q21, .inr (0, [.ref q22, .ref q23, .ref q24, .int 0])), (q22, .inl (cA25, 8, .inl (fun _ => 0))), (q23, .inl (cA26, 8, .inl (fun _ => 0))), (q24, .inl (cA27, 8, .inl (fun _ => 0)))]) hP hD [14] [0, 1, 2, 3, 4, 5, 6, 7, 8, 9, 10, 11, 12, 13] rfl rfl (by decide) (by decide) hk1 hFc hP1 hD1
  have hK := (hK.sub (tys' := [(cA2, .object "PondRings$Sheet"), (cA5, .int), (cA8, .int), (cA11, .int), (cA14, .int), (cA19, .long), (cA20, .int)]) [0, 1, 2, 3, 4, 5, 6] rfl).app hK1
  generalize H1 = H at hP hS ⊢
  have hP : va_P D mm_K [(h0, .inr (6, [.ref q1, .ref q15, .ref q16, .null, .null, .null, .null, .null, .null, .int 0, .int 0])), (q1, .inl (cA2, 4, .inr (.inr (.inr (.inr (va_up (va_up (va_up (va_up (fun _ => none) 0 (some q3)) 1 (some q6)) 2 (some q9)) 3 (some q12))))))), (q3, .inr (4, [.ref q4, .int 0, .int 0, .int 0])), (q4, .inl (cA5, 60, .inl (fun _ => 0))), (q6, .inr (4, [.ref q7, .int 0, .int 0, .int 0])), (q7, .inl (cA8, 60, .inl (fun _ => 0))), (q9, .inr (4, [.ref q10, .int 0, .int 0, .int 0])), (q10, .inl (cA11, 60, .inl (fun _ => 0))), (q12, .inr (4, [.ref q13, .int 0, .int 0, .int 0])), (q13, .inl (cA14, 60, .inl (fun _ => 0))), (q15, .inr (3, [.int 0, .int 0, .long 0])), (q16, .inr (2, [.ref q17, .ref q18, .long 0, .long 0, .long 0, .int 0, .int 0, .long 0])), (q17, .inl (cA19, 1764, .inr (.inl (fun _ => 0)))), (q18, .inl (cA20, 42, .inl (fun _ => 0))), (q21, .inr (0, [.ref q22, .ref q23, .ref q24, .int 0])), (q22, .inl (cA25, 8, .inl (fun _ => 0))), (q23, .inl (cA26, 8, .inl (fun _ => 0))), (q24, .inl (cA27, 8, .inl (fun _ => 0)))] H := hP
  have hD : va_D A [(h0, .inr (6, [.ref q1, .ref q15, .ref q16, .null, .null, .null, .null, .null, .null, .int 0, .int 0])), (q1, .inl (cA2, 4, .inr (.inr (.inr (.inr (va_up (va_up (va_up (va_up (fun _ => none) 0 (some q3)) 1 (some q6)) 2 (some q9)) 3 (some q12))))))), (q3, .inr (4, [.ref q4, .int 0, .int 0, .int 0])), (q4, .inl (cA5, 60, .inl (fun _ => 0))), (q6, .inr (4, [.ref q7, .int 0, .int 0, .int 0])), (q7, .inl (cA8, 60, .inl (fun _ => 0))), (q9, .inr (4, [.ref q10, .int 0, .int 0, .int 0])), (q10, .inl (cA11, 60, .inl (fun _ => 0))), (q12, .inr (4, [.ref q13, .int 0, .int 0, .int 0])), (q13, .inl (cA14, 60, .inl (fun _ => 0))), (q15, .inr (3, [.int 0, .int 0, .long 0])), (q16, .inr (2, [.ref q17, .ref q18, .long 0, .long 0, .long 0, .int 0, .int 0, .long 0])), (q17, .inl (cA19, 1764, .inr (.inl (fun _ => 0)))), (q18, .inl (cA20, 42, .inl (fun _ => 0))), (q21, .inr (0, [.ref q22, .ref q23, .ref q24, .int 0])), (q22, .inl (cA25, 8, .inl (fun _ => 0))), (q23, .inl (cA26, 8, .inl (fun _ => 0))), (q24, .inl (cA27, 8, .inl (fun _ => 0)))] := hD
  have hK : va_K D mm_K [(cA2, .object "PondRings$Sheet"), (cA5, .int), (cA8, .int), (cA11, .int), (cA14, .int), (cA19, .long), (cA20, .int), (cA25, .int), (cA26, .int), (cA27, .int)] s := hK
  refine va_putF (D := D) (ci := 6) (v := .ref q21) (ty := .object "PondRings$Listing") (C := RX6) (T := TX6) (N := 11) hx hb htb mu_6 tyX6 tyX6_ok nmX6 hown hK hP hD hS 0 rfl rfl 3 (by decide) (htb _ wf_6_37) (fun _ h9 => h9) rfl hin rfl (by decide +kernel) rfl rfl (Nat.le_of_ble_eq_true rfl) di_6_70 (fun H locs hP hD hS => ?_)
  have hP : va_P D mm_K [(h0, .inr (6, [.ref q1, .ref q15, .ref q16, .ref q21, .null, .null, .null, .null, .null, .int 0, .int 0])), (q1, .inl (cA2, 4, .inr (.inr (.inr (.inr (va_up (va_up (va_up (va_up (fun _ => none) 0 (some q3)) 1 (some q6)) 2 (some q9)) 3 (some q12))))))), (q3, .inr (4, [.ref q4, .int 0, .int 0, .int 0])), (q4, .inl (cA5, 60, .inl (fun _ => 0))), (q6, .inr (4, [.ref q7, .int 0, .int 0, .int 0])), (q7, .inl (cA8, 60, .inl (fun _ => 0))), (q9, .inr (4, [.ref q10, .int 0, .int 0, .int 0])), (q10, .inl (cA11, 60, .inl (fun _ => 0))), (q12, .inr (4, [.ref q13, .int 0, .int 0, .int 0])), (q13, .inl (cA14, 60, .inl (fun _ => 0))), (q15, .inr (3, [.int 0, .int 0, .long 0])), (q16, .inr (2, [.ref q17, .ref q18, .long 0, .long 0, .long 0, .int 0, .int 0, .long 0])), (q17, .inl (cA19, 1764, .inr (.inl (fun _ => 0)))), (q18, .inl (cA20, 42, .inl (fun _ => 0))), (q21, .inr (0, [.ref q22, .ref q23, .ref q24, .int 0])), (q22, .inl (cA25, 8, .inl (fun _ => 0))), (q23, .inl (cA26, 8, .inl (fun _ => 0))), (q24, .inl (cA27, 8, .inl (fun _ => 0)))] H := hP
  have hD : va_D A [(h0, .inr (6, [.ref q1, .ref q15, .ref q16, .ref q21, .null, .null, .null, .null, .null, .int 0, .int 0])), (q1, .inl (cA2, 4, .inr (.inr (.inr (.inr (va_up (va_up (va_up (va_up (fun _ => none) 0 (some q3)) 1 (some q6)) 2 (some q9)) 3 (some q12))))))), (q3, .inr (4, [.ref q4, .int 0, .int 0, .int 0])), (q4, .inl (cA5, 60, .inl (fun _ => 0))), (q6, .inr (4, [.ref q7, .int 0, .int 0, .int 0])), (q7, .inl (cA8, 60, .inl (fun _ => 0))), (q9, .inr (4, [.ref q10, .int 0, .int 0, .int 0])), (q10, .inl (cA11, 60, .inl (fun _ => 0))), (q12, .inr (4, [.ref q13, .int 0, .int 0, .int 0])), (q13, .inl (cA14, 60, .inl (fun _ => 0))), (q15, .inr (3, [.int 0, .int 0, .long 0])), (q16, .inr (2, [.ref q17, .ref q18, .long 0, .long 0, .long 0, .int 0, .int 0, .long 0])), (q17, .inl (cA19, 1764, .inr (.inl (fun _ => 0)))), (q18, .inl (cA20, 42, .inl (fun _ => 0))), (q21, .inr (0, [.ref q22, .ref q23, .ref q24, .int 0])), (q22, .inl (cA25, 8, .inl (fun _ => 0))), (q23, .inl (cA26, 8, .inl (fun _ => 0))), (q24, .inl (cA27, 8, .inl (fun _ => 0)))] := hD
  refine lv_aload_n hx hb di_6_73 rfl (lv_at hl 1 rfl) ?_
  refine va_new (ci := 0) (fs := [.null, .null, .null, .int 0]) (C := RX0) (T := TX0) (N := 4) hx hb htb mu_0 tyX0 tyX0_ok hown (htb _ wl_6_32) (htb _ wc_able_0) (htb _ wc_ini_0) hK hP hD hS hA rfl md_0 (Nat.le_of_ble_eq_true rfl) (Nat.le_of_ble_eq_true rfl) di_6_74 (fun q28 H hP hD hS => ?_)
  have hP : va_P D mm_K [(h0, .inr (6, [.ref q1, .ref q15, .ref q16, .ref q21, .null, .null, .null, .null, .null, .int 0, .int 0])), (q1, .inl (cA2, 4, .inr (.inr (.inr (.inr (va_up (va_up (va_up (va_up (fun _ => none) 0 (some q3)) 1 (some q6)) 2 (some q9)) 3 (some q12))))))), (q3, .inr (4, [.ref q4, .int 0, .int 0, .int 0])), (q4, .inl (cA5, 60, .inl (fun _ => 0))), (q6, .inr (4, [.ref q7, .int 0, .int 0, .int 0])), (q7, .inl (cA8, 60, .inl (fun _ => 0))), (q9, .inr (4, [.ref q10, .int 0, .int 0, .int 0])), (q10, .inl (cA11, 60, .inl (fun _ => 0))), (q12, .inr (4, [.ref q13, .int 0, .int 0, .int 0])), (q13, .inl (cA14, 60, .inl (fun _ => 0))), (q15, .inr (3, [.int 0, .int 0, .long 0])), (q16, .inr (2, [.ref q17, .ref q18, .long 0, .long 0, .long 0, .int 0, .int 0, .long 0])), (q17, .inl (cA19, 1764, .inr (.inl (fun _ => 0)))), (q18, .inl (cA20, 42, .inl (fun _ => 0))), (q21, .inr (0, [.ref q22, .ref q23, .ref q24, .int 0])), (q22, .inl (cA25, 8, .inl (fun _ => 0))), (q23, .inl (cA26, 8, .inl (fun _ => 0))), (q24, .inl (cA27, 8, .inl (fun _ => 0))), (q28, .inr (0, [.null, .null, .null, .int 0]))] H := hP
  have hD : va_D A [(h0, .inr (6, [.ref q1, .ref q15, .ref q16, .ref q21, .null, .null, .null, .null, .null, .int 0, .int 0])), (q1, .inl (cA2, 4, .inr (.inr (.inr (.inr (va_up (va_up (va_up (va_up (fun _ => none) 0 (some q3)) 1 (some q6)) 2 (some q9)) 3 (some q12))))))), (q3, .inr (4, [.ref q4, .int 0, .int 0, .int 0])), (q4, .inl (cA5, 60, .inl (fun _ => 0))), (q6, .inr (4, [.ref q7, .int 0, .int 0, .int 0])), (q7, .inl (cA8, 60, .inl (fun _ => 0))), (q9, .inr (4, [.ref q10, .int 0, .int 0, .int 0])), (q10, .inl (cA11, 60, .inl (fun _ => 0))), (q12, .inr (4, [.ref q13, .int 0, .int 0, .int 0])), (q13, .inl (cA14, 60, .inl (fun _ => 0))), (q15, .inr (3, [.int 0, .int 0, .long 0])), (q16, .inr (2, [.ref q17, .ref q18, .long 0, .long 0, .long 0, .int 0, .int 0, .long 0])), (q17, .inl (cA19, 1764, .inr (.inl (fun _ => 0)))), (q18, .inl (cA20, 42, .inl (fun _ => 0))), (q21, .inr (0, [.ref q22, .ref q23, .ref q24, .int 0])), (q22, .inl (cA25, 8, .inl (fun _ => 0))), (q23, .inl (cA26, 8, .inl (fun _ => 0))), (q24, .inl (cA27, 8, .inl (fun _ => 0))), (q28, .inr (0, [.null, .null, .null, .int 0]))] := hD
  refine lv_dup hx hb di_6_77 rfl ?_
  refine lv_bipush (v := 6) hx hb di_6_78 (by decide) ?_
  have hPc := hP.sub (ws' := [(q28, .inr (0, [.null, .null, .null, .int 0]))]) [18] rfl
  have hDc := hD.sub (ws' := [(q28, .inr (0, [.null, .null, .null, .int 0]))]) [18] (by decide) rfl
  have hKc := hK.sub (tys' := []) [] rfl
  have hFc := va_free (wc := [(q28, .inr (0, [.null, .null, .null, .int 0]))]) hD hS hA [18] rfl
  refine va_callv (va_runI (As := [.int (6 : Int32)]) (rest := [.ref q28, .ref h0]) ⟨hx, hb, hml, hown, htb⟩ (c_X0_6 l D q28 H.size) (cwI 1 htb (wg wc_code_0) rfl rfl rfl (htb _ wc_ini_0) (htb _ wm_6_34) (htb _ wc_inst_0) rfl ⟨by decide +kernel, by decide +kernel, by decide +kernel⟩ ⟨Nat.le_of_ble_eq_true rfl, Nat.le_of_ble_eq_true rfl⟩) ⟨fun a U g mk q => by obtain ⟨q0, q1, qP, qK, qD⟩ := q; exact ⟨q0, q1, qP, va_K.moved (u := U) (U := U.calling g mk a) (Vm.Alike.refl U.vm) qK, qD⟩, fun U hU hW => ⟨rfl, by rw [hU], by rw [hU]; exact hPc, va_K.moved hW.alike hKc, hDc.weaken (fun _ _ _ _ => trivial)⟩⟩ rfl rfl hl.1 rfl (lv_room (Nat.le_of_ble_eq_true rfl)) di_6_80 ⟨Nat.le_of_ble_eq_true rfl, Nat.le_of_ble_eq_true rfl⟩) hS (fun q _ h => hFc q h) hFc (fun u t H1 locs ht hvm hw hB hz1 hk1 hS => ?_)
  obtain ⟨q29, q30, q31, cA32, cA33, cA34, hP1, hK1, hD1⟩ := hB
  rw [ht] at hP1
  have hK1 := va_K.moved hvm.symm hK1
  obtain ⟨hP, hD⟩ := va_join (wr := [(h0, .inr (6, [.ref q1, .ref q15, .ref q16, .ref q21, .null, .null, .null, .null, .null, .int 0, .int 0])), (q1, .inl (cA2, 4, .inr (.inr (.inr (.inr (va_up (va_up (va_up (va_up (fun _ => none) 0 (some q3)) 1 (some q6)) 2 (some q9)) 3 (some q12))))))), (q3, .inr (4, [.ref q4, .int 0, .int 0, .int 0])), (q4, .inl (cA5, 60, .inl (fun _ => 0))), (q6, .inr (4, [.ref q7, .int 0, .int 0, .int 0])), (q7, .inl (cA8, 60, .inl (fun _ => 0))), (q9, .inr (4, [.ref q10, .int 0, .int 0, .int 0])), (q10, .inl (cA11, 60, .inl (fun _ => 0))), (q12, .inr (4, [.ref q13, .int 0, .int 0, .int 0])), (q13, .inl (cA14, 60, .inl (fun _ => 0))), (q15, .inr (3, [.int 0, .int 0, .long 0])), (q16, .inr (2, [.ref q17, .ref q18, .long 0, .long 0, .long 0, .int 0, .int 0, .long 0])), (q17, .inl (cA19, 1764, .inr (.inl (fun _ => 0)))), (q18, .inl (cA20, 42, .inl (fun _ => 0))), (q21, .inr (0, [.ref q22, .ref q23, .ref q24, .int 0])), (q22, .inl (cA25, 8, .inl (fun _ => 0))), (q23, .inl (cA26, 8, .inl (fun _ => 0))), (q24, .inl (cA27, 8, .inl (fun _ => 0)))]) (w1 := [(q28, .inr (0, [.ref q29, .ref q30, .ref q31, .int 0])), (q29, .inl (cA32, 6, .inl (fun _ => 0))), (q30, .inl (cA33, 6, .inl (fun _ => 0))), (q31, .inl (cA34, 6, .inl (fun _ => 0)))]) hP hD [18] [0, 1, 2, 3, 4, 5, 6, 7, 8, 9, 10, 11, 12, 13, 14, 15, 16, 17] rfl rfl (by decide) (by decide) hk1 hFc hP1 hD1
  have hK := (hK.sub (tys' := [(cA2, .object "PondRings$Sheet"), (cA5, .int), (cA8, .int), (cA11, .int), (cA14, .int), (cA19, .long), (cA20, .int), (cA25, .int), (cA26, .int), (cA27, .int)]) [0, 1, 2, 3, 4, 5, 6, 7, 8, 9] rfl).app hK1
  generalize H1 = H at hP hS ⊢
  have hP : va_P D mm_K [(h0, .inr (6, [.ref q1, .ref q15, .ref q16, .ref q21, .null, .null, .null, .null, .null, .int 0, .int 0])), (q1, .inl (cA2, 4, .inr (.inr (.inr (.inr (va_up (va_up (va_up (va_up (fun _ => none) 0 (some q3)) 1 (some q6)) 2 (some q9)) 3 (some q12))))))), (q3, .inr (4, [.ref q4, .int 0, .int 0, .int 0])), (q4, .inl (cA5, 60, .inl (fun _ => 0))), (q6, .inr (4, [.ref q7, .int 0, .int 0, .int 0])), (q7, .inl (cA8, 60, .inl (fun _ => 0))), (q9, .inr (4, [.ref q10, .int 0, .int 0, .int 0])), (q10, .inl (cA11, 60, .inl (fun _ => 0))), (q12, .inr (4, [.ref q13, .int 0, .int 0, .int 0])), (q13, .inl (cA14, 60, .inl (fun _ => 0))), (q15, .inr (3, [.int 0, .int 0, .long 0])), (q16, .inr (2, [.ref q17, .ref q18, .long 0, .long 0, .long 0, .int 0, .int 0, .long 0])), (q17, .inl (cA19, 1764, .inr (.inl (fun _ => 0)))), (q18, .inl (cA20, 42, .inl (fun _ => 0))), (q21, .inr (0, [.ref q22, .ref q23, .ref q24, .int 0])), (q22, .inl (cA25, 8, .inl (fun _ => 0))), (q23, .inl (cA26, 8, .inl (fun _ => 0))), (q24, .inl (cA27, 8, .inl (fun _ => 0))), (q28, .inr (0, [.ref q29, .ref q30, .ref q31, .int 0])), (q29, .inl (cA32, 6, .inl (fun _ => 0))), (q30, .inl (cA33, 6, .inl (fun _ => 0))), (q31, .inl (cA34, 6, .inl (fun _ => 0)))] H := hP
  have hD : va_D A [(h0, .inr (6, [.ref q1, .ref q15, .ref q16, .ref q21, .null, .null, .null, .null, .null, .int 0, .int 0])), (q1, .inl (cA2, 4, .inr (.inr (.inr (.inr (va_up (va_up (va_up (va_up (fun _ => none) 0 (some q3)) 1 (some q6)) 2 (some q9)) 3 (some q12))))))), (q3, .inr (4, [.ref q4, .int 0, .int 0, .int 0])), (q4, .inl (cA5, 60, .inl (fun _ => 0))), (q6, .inr (4, [.ref q7, .int 0, .int 0, .int 0])), (q7, .inl (cA8, 60, .inl (fun _ => 0))), (q9, .inr (4, [.ref q10, .int 0, .int 0, .int 0])), (q10, .inl (cA11, 60, .inl (fun _ => 0))), (q12, .inr (4, [.ref q13, .int 0, .int 0, .int 0])), (q13, .inl (cA14, 60, .inl (fun _ => 0))), (q15, .inr (3, [.int 0, .int 0, .long 0])), (q16, .inr (2, [.ref q17, .ref q18, .long 0, .long 0, .long 0, .int 0, .int 0, .long 0])), (q17, .inl (cA19, 1764, .inr (.inl (fun _ => 0)))), (q18, .inl (cA20, 42, .inl (fun _ => 0))), (q21, .inr (0, [.ref q22, .ref q23, .ref q24, .int 0])), (q22, .inl (cA25, 8, .inl (fun _ => 0))), (q23, .inl (cA26, 8, .inl (fun _ => 0))), (q24, .inl (cA27, 8, .inl (fun _ => 0))), (q28, .inr (0, [.ref q29, .ref q30, .ref q31, .int 0])), (q29, .inl (cA32, 6, .inl (fun _ => 0))), (q30, .inl (cA33, 6, .inl (fun _ => 0))), (q31, .inl (cA34, 6, .inl (fun _ => 0)))] := hD
  have hK : va_K D mm_K [(cA2, .object "PondRings$Sheet"), (cA5, .int), (cA8, .int), (cA11, .int), (cA14, .int), (cA19, .long), (cA20, .int), (cA25, .int), (cA26, .int), (cA27, .int), (cA32, .int), (cA33, .int), (cA34, .int)] s := hK
  refine va_putF (D := D) (ci := 6) (v := .ref q28) (ty := .object "PondRings$Listing") (C := RX6) (T := TX6) (N := 11) hx hb htb mu_6 tyX6 tyX6_ok nmX6 hown hK hP hD hS 0 rfl rfl 4 (by decide) (htb _ wf_6_41) (fun _ h9 => h9) rfl hin rfl (by decide +kernel) rfl rfl (Nat.le_of_ble_eq_true rfl) di_6_83 (fun H locs hP hD hS => ?_)
  have hP : va_P D mm_K [(h0, .inr (6, [.ref q1, .ref q15, .ref q16, .ref q21, .ref q28, .null, .null, .null, .null, .int 0, .int 0])), (q1, .inl (cA2, 4, .inr (.inr (.inr (.inr (va_up (va_up (va_up (va_up (fun _ => none) 0 (some q3)) 1 (some q6)) 2 (some q9)) 3 (some q12))))))), (q3, .inr (4, [.ref q4, .int 0, .int 0, .int 0])), (q4, .inl (cA5, 60, .inl (fun _ => 0))), (q6, .inr (4, [.ref q7, .int 0, .int 0, .int 0])), (q7, .inl (cA8, 60, .inl (fun _ => 0))), (q9, .inr (4, [.ref q10, .int 0, .int 0, .int 0])), (q10, .inl (cA11, 60, .inl (fun _ => 0))), (q12, .inr (4, [.ref q13, .int 0, .int 0, .int 0])), (q13, .inl (cA14, 60, .inl (fun _ => 0))), (q15, .inr (3, [.int 0, .int 0, .long 0])), (q16, .inr (2, [.ref q17, .ref q18, .long 0, .long 0, .long 0, .int 0, .int 0, .long 0])), (q17, .inl (cA19, 1764, .inr (.inl (fun _ => 0)))), (q18, .inl (cA20, 42, .inl (fun _ => 0))), (q21, .inr (0, [.ref q22, .ref q23, .ref q24, .int 0])), (q22, .inl (cA25, 8, .inl (fun _ => 0))), (q23, .inl (cA26, 8, .inl (fun _ => 0))), (q24, .inl (cA27, 8, .inl (fun _ => 0))), (q28, .inr (0, [.ref q29, .ref q30, .ref q31, .int 0])), (q29, .inl (cA32, 6, .inl (fun _ => 0))), (q30, .inl (cA33, 6, .inl (fun _ => 0))), (q31, .inl (cA34, 6, .inl (fun _ => 0)))] H := hP
  have hD : va_D A [(h0, .inr (6, [.ref q1, .ref q15, .ref q16, .ref q21, .ref q28, .null, .null, .null, .null, .int 0, .int 0])), (q1, .inl (cA2, 4, .inr (.inr (.inr (.inr (va_up (va_up (va_up (va_up (fun _ => none) 0 (some q3)) 1 (some q6)) 2 (some q9)) 3 (some q12))))))), (q3, .inr (4, [.ref q4, .int 0, .int 0, .int 0])), (q4, .inl (cA5, 60, .inl (fun _ => 0))), (q6, .inr (4, [.ref q7, .int 0, .int 0, .int 0])), (q7, .inl (cA8, 60, .inl (fun _ => 0))), (q9, .inr (4, [.ref q10, .int 0, .int 0, .int 0])), (q10, .inl (cA11, 60, .inl (fun _ => 0))), (q12, .inr (4, [.ref q13, .int 0, .int 0, .int 0])), (q13, .inl (cA14, 60, .inl (fun _ => 0))), (q15, .inr (3, [.int 0, .int 0, .long 0])), (q16, .inr (2, [.ref q17, .ref q18, .long 0, .long 0, .long 0, .int 0, .int 0, .long 0])), (q17, .inl (cA19, 1764, .inr (.inl (fun _ => 0)))), (q18, .inl (cA20, 42, .inl (fun _ => 0))), (q21, .inr (0, [.ref q22, .ref q23, .ref q24, .int 0])), (q22, .inl (cA25, 8, .inl (fun _ => 0))), (q23, .inl (cA26, 8, .inl (fun _ => 0))), (q24, .inl (cA27, 8, .inl (fun _ => 0))), (q28, .inr (0, [.ref q29, .ref q30, .ref q31, .int 0])), (q29, .inl (cA32, 6, .inl (fun _ => 0))), (q30, .inl (cA33, 6, .inl (fun _ => 0))), (q31, .inl (cA34, 6, .inl (fun _ => 0)))] := hD
  refine lv_aload_n hx hb di_6_86 rfl (lv_at hl 1 rfl) ?_
  refine va_new (ci := 0) (fs := [.null, .null, .null, .int 0]) (C := RX0) (T := TX0) (N := 4) hx hb htb mu_0 tyX0 tyX0_ok hown (htb _ wl_6_32) (htb _ wc_able_0) (htb _ wc_ini_0) hK hP hD hS hA rfl md_0 (Nat.le_of_ble_eq_true rfl) (Nat.le_of_ble_eq_true rfl) di_6_87 (fun q35 H hP hD hS => ?_)
  have hP : va_P D mm_K [(h0, .inr (6, [.ref q1, .ref q15, .ref q16, .ref q21, .ref q28, .null, .null, .null, .null, .int 0, .int 0])), (q1, .inl (cA2, 4, .inr (.inr (.inr (.inr (va_up (va_up (va_up (va_up (fun _ => none) 0 (some q3)) 1 (some q6)) 2 (some q9)) 3 (some q12))))))), (q3, .inr (4, [.ref q4, .int 0, .int 0, .int 0])), (q4, .inl (cA5, 60, .inl (fun _ => 0))), (q6, .inr (4, [.ref q7, .int 0, .int 0, .int 0])), (q7, .inl (cA8, 60, .inl (fun _ => 0))), (q9, .inr (4, [.ref q10, .int 0, .int 0, .int 0])), (q10, .inl (cA11, 60, .inl (fun _ => 0))), (q12, .inr (4, [.ref q13, .int 0, .int 0, .int 0])), (q13, .inl (cA14, 60, .inl (fun _ => 0))), (q15, .inr (3, [.int 0, .int 0, .long 0])), (q16, .inr (2, [.ref q17, .ref q18, .long 0, .long 0, .long 0, .int 0, .int 0, .long 0])), (q17, .inl (cA19, 1764, .inr (.inl (fun _ => 0)))), (q18, .inl (cA20, 42, .inl (fun _ => 0))), (q21, .inr (0, [.ref q22, .ref q23, .ref q24, .int 0])), (q22, .inl (cA25, 8, .inl (fun _ => 0))), (q23, .inl (cA26, 8, .inl (fun _ => 0))), (q24, .inl (cA27, 8, .inl (fun _ => 0))), (q28, .inr (0, [.ref q29, .ref q30, .ref q31, .int 0])), (q29, .inl (cA32, 6, .inl (fun _ => 0))), (q30, .inl (cA33, 6, .inl (fun _ => 0))), (q31, .inl (cA34, 6, .inl (fun _ => 0))), (q35, .inr (0, [.null, .null, .null, .int 0]))] H := hP
  have hD : va_D A [(h0, .inr (6, [.ref q1, .ref q15, .ref q16, .ref q21, .ref q28, .null, .null, .null, .null, .int 0, .int 0])), (q1, .inl (cA2, 4, .inr (.inr (.inr (.inr (va_up (va_up (va_up (va_up (fun _ => none) 0 (some q3)) 1 (some q6)) 2 (some q9)) 3 (some q12))))))), (q3, .inr (4, [.ref q4, .int 0, .int 0, .int 0])), (q4, .inl (cA5, 60, .inl (fun _ => 0))), (q6, .inr (4, [.ref q7, .int 0, .int 0, .int 0])), (q7, .inl (cA8, 60, .inl (fun _ => 0))), (q9, .inr (4, [.ref q10, .int 0, .int 0, .int 0])), (q10, .inl (cA11, 60, .inl (fun _ => 0))), (q12, .inr (4, [.ref q13, .int 0, .int 0, .int 0])), (q13, .inl (cA14, 60, .inl (fun _ => 0))), (q15, .inr (3, [.int 0, .int 0, .long 0])), (q16, .inr (2, [.ref q17, .ref q18, .long 0, .long 0, .long 0, .int 0, .int 0, .long 0])), (q17, .inl (cA19, 1764, .inr (.inl (fun _ => 0)))), (q18, .inl (cA20, 42, .inl (fun _ => 0))), (q21, .inr (0, [.ref q22, .ref q23, .ref q24, .int 0])), (q22, .inl (cA25, 8, .inl (fun _ => 0))), (q23, .inl (cA26, 8, .inl (fun _ => 0))), (q24, .inl (cA27, 8, .inl (fun _ => 0))), (q28, .inr (0, [.ref q29, .ref q30, .ref q31, .int 0])), (q29, .inl (cA32, 6, .inl (fun _ => 0))), (q30, .inl (cA33, 6, .inl (fun _ => 0))), (q31, .inl (cA34, 6, .inl (fun _ => 0))), (q35, .inr (0, [.null, .null, .null, .int 0]))] := hD
  refine lv_dup hx hb di_6_90 rfl ?_
  refine lv_bipush (v := 6) hx hb di_6_91 (by decide) ?_
  have hPc := hP.sub (ws' := [(q35, .inr (0, [.null, .null, .null, .int 0]))]) [22] rfl
  have hDc := hD.sub (ws' := [(q35, .inr (0, [.null, .null, .null, .int 0]))]) [22] (by decide) rfl
  have hKc := hK.sub (tys' := []) [] rfl
  have hFc := va_free (wc := [(q35, .inr (0, [.null, .null, .null, .int 0]))]) hD hS hA [22] rfl
  refine va_callv (va_runI (As := [.int (6 : Int32)]) (rest := [.ref q35, .ref h0]) ⟨hx, hb, hml, hown, htb⟩ (c_X0_6 l D q35 H.size) (cwI 1 htb (wg wc_code_0) rfl rfl rfl (htb _ wc_ini_0) (htb _ wm_6_34) (htb _ wc_inst_0) rfl ⟨by decide +kernel, by decide +kernel, by decide +kernel⟩ ⟨Nat.le_of_ble_eq_true rfl, Nat.le_of_ble_eq_true rfl⟩) ⟨fun a U g mk q => by obtain ⟨q0, q1, qP, qK, qD⟩ := q; exact ⟨q0, q1, qP, va_K.moved (u := U) (U := U.calling g mk a) (Vm.Alike.refl U.vm) qK, qD⟩, fun U hU hW => ⟨rfl, by rw [hU], by rw [hU]; exact hPc, va_K.moved hW.alike hKc, hDc.weaken (fun _ _ _ _ => trivial)⟩⟩ rfl rfl hl.1 rfl (lv_room (Nat.le_of_ble_eq_true rfl)) di_6_93 ⟨Nat.le_of_ble_eq_true rfl, Nat.le_of_ble_eq_true rfl⟩) hS (fun q _ h => hFc q h) hFc (fun u t H1 locs ht hvm hw hB hz1 hk1 hS => ?_)
  obtain ⟨q36, q37, q38, cA39, cA40, cA41, hP1, hK1, hD1⟩ := hB
  rw [ht] at hP1
  have hK1 := va_K.moved hvm.symm hK1
  obtain ⟨hP, hD⟩ := va_join (wr := [(h0, .inr (6, [.ref q1, .ref q15, .ref q16, .ref q21, .ref q28, .null, .null, .null, .null, .int 0, .int 0])), (q1, .inl (cA2, 4, .inr (.inr (.inr (.inr (va_up (va_up (va_up (va_up (fun _ => none) 0 (some q3)) 1 (some q6)) 2 (some q9)) 3 (some q12))))))), (q3, .inr (4, [.ref q4, .int 0, .int 0, .int 0])), (q4, .inl (cA5, 60, .inl (fun _ => 0))), (q6, .inr (4, [.ref q7, .int 0, .int 0, .int 0])), (q7, .inl (cA8, 60, .inl (fun _ => 0))), (q9, .inr (4, [.ref q10, .int 0, .int 0, .int 0])), (q10, .inl (cA11, 60, .inl (fun _ => 0))), (q12, .inr (4, [.ref q13, .int 0, .int 0, .int 0])), (q13, .inl (cA14, 60, .inl (fun _ => 0))), (q15, .inr (3, [.int 0, .int 0, .long 0])), (q16, .inr (2, [.ref q17, .ref q18, .long 0, .long 0, .long 0, .int 0, .int 0, .long 0])), (q17, .inl (cA19, 1764, .inr (.inl (fun _ => 0)))), (q18, .inl (cA20, 42, .inl (fun _ => 0))), (q21, .inr (0, [.ref q22, .ref q23, .ref q24, .int 0])), (q22, .inl (cA25, 8, .inl (fun _ => 0))), (q23, .inl (cA26, 8, .inl (fun _ => 0))), (q24, .inl (cA27, 8, .inl (fun _ => 0))), (q28, .inr (0, [.ref q29, .ref q30, .ref q31, .int 0])), (q29, .inl (cA32, 6, .inl (fun _ => 0))), (q30, .inl (cA33, 6, .inl (fun _ => 0))), (q31, .inl (cA34, 6, .inl (fun _ => 0)))]) (w1 := [(q35, .inr (0, [.ref q36, .ref q37, .ref q38, .int 0])), (q36, .inl (cA39, 6, .inl (fun _ => 0))), (q37, .inl (cA40, 6, .inl (fun _ => 0))), (q38, .inl (cA41, 6, .inl (fun _ => 0)))]) hP hD [22] [0, 1, 2, 3, 4, 5, 6, 7, 8, 9, 10, 11, 12, 13, 14, 15, 16, 17, 18, 19, 20, 21] rfl rfl (by decide) (by decide) hk1 hFc hP1 hD1
  have hK := (hK.sub (tys' := [(cA2, .object "PondRings$Sheet"), (cA5, .int), (cA8, .int), (cA11, .int), (cA14, .int), (cA19, .long), (cA20, .int), (cA25, .int), (cA26, .int), (cA27, .int), (cA32, .int), (cA33, .int), (cA34, .int)]) [0, 1, 2, 3, 4, 5, 6, 7, 8, 9, 10, 11, 12] rfl).app hK1
  generalize H1 = H at hP hS ⊢
  have hP : va_P D mm_K [(h0, .inr (6, [.ref q1, .ref q15, .ref q16, .ref q21, .ref q28, .null, .null, .null, .null, .int 0, .int 0])), (q1, .inl (cA2, 4, .inr (.inr (.inr (.inr (va_up (va_up (va_up (va_up (fun _ => none) 0 (some q3)) 1 (some q6)) 2 (some q9)) 3 (some q12))))))), (q3, .inr (4, [.ref q4, .int 0, .int 0, .int 0])), (q4, .inl (cA5, 60, .inl (fun _ => 0))), (q6, .inr (4, [.ref q7, .int 0, .int 0, .int 0])), (q7, .inl (cA8, 60, .inl (fun _ => 0))), (q9, .inr (4, [.ref q10, .int 0, .int 0, .int 0])), (q10, .inl (cA11, 60, .inl (fun _ => 0))), (q12, .inr (4, [.ref q13, .int 0, .int 0, .int 0])), (q13, .inl (cA14, 60, .inl (fun _ => 0))), (q15, .inr (3, [.int 0, .int 0, .long 0])), (q16, .inr (2, [.ref q17, .ref q18, .long 0, .long 0, .long 0, .int 0, .int 0, .long 0])), (q17, .inl (cA19, 1764, .inr (.inl (fun _ => 0)))), (q18, .inl (cA20, 42, .inl (fun _ => 0))), (q21, .inr (0, [.ref q22, .ref q23, .ref q24, .int 0])), (q22, .inl (cA25, 8, .inl (fun _ => 0))), (q23, .inl (cA26, 8, .inl (fun _ => 0))), (q24, .inl (cA27, 8, .inl (fun _ => 0))), (q28, .inr (0, [.ref q29, .ref q30, .ref q31, .int 0])), (q29, .inl (cA32, 6, .inl (fun _ => 0))), (q30, .inl (cA33, 6, .inl (fun _ => 0))), (q31, .inl (cA34, 6, .inl (fun _ => 0))), (q35, .inr (0, [.ref q36, .ref q37, .ref q38, .int 0])), (q36, .inl (cA39, 6, .inl (fun _ => 0))), (q37, .inl (cA40, 6, .inl (fun _ => 0))), (q38, .inl (cA41, 6, .inl (fun _ => 0)))] H := hP
  have hD : va_D A [(h0, .inr (6, [.ref q1, .ref q15, .ref q16, .ref q21, .ref q28, .null, .null, .null, .null, .int 0, .int 0])), (q1, .inl (cA2, 4, .inr (.inr (.inr (.inr (va_up (va_up (va_up (va_up (fun _ => none) 0 (some q3)) 1 (some q6)) 2 (some q9)) 3 (some q12))))))), (q3, .inr (4, [.ref q4, .int 0, .int 0, .int 0])), (q4, .inl (cA5, 60, .inl (fun _ => 0))), (q6, .inr (4, [.ref q7, .int 0, .int 0, .int 0])), (q7, .inl (cA8, 60, .inl (fun _ => 0))), (q9, .inr (4, [.ref q10, .int 0, .int 0, .int 0])), (q10, .inl (cA11, 60, .inl (fun _ => 0))), (q12, .inr (4, [.ref q13, .int 0, .int 0, .int 0])), (q13, .inl (cA14, 60, .inl (fun _ => 0))), (q15, .inr (3, [.int 0, .int 0, .long 0])), (q16, .inr (2, [.ref q17, .ref q18, .long 0, .long 0, .long 0, .int 0, .int 0, .long 0])), (q17, .inl (cA19, 1764, .inr (.inl (fun _ => 0)))), (q18, .inl (cA20, 42, .inl (fun _ => 0))), (q21, .inr (0, [.ref q22, .ref q23, .ref q24, .int 0])), (q22, .inl (cA25, 8, .inl (fun _ => 0))), (q23, .inl (cA26, 8, .inl (fun _ => 0))), (q24, .inl (cA27, 8, .inl (fun _ => 0))), (q28, .inr (0, [.ref q29, .ref q30, .ref q31, .int 0])), (q29, .inl (cA32, 6, .inl (fun _ => 0))), (q30, .inl (cA33, 6, .inl (fun _ => 0))), (q31, .inl (cA34, 6, .inl (fun _ => 0))), (q35, .inr (0, [.ref q36, .ref q37, .ref q38, .int 0])), (q36, .inl (cA39, 6, .inl (fun _ => 0))), (q37, .inl (cA40, 6, .inl (fun _ => 0))), (q38, .inl (cA41, 6, .inl (fun _ => 0)))] := hD
  have hK : va_K D mm_K [(cA2, .object "PondRings$Sheet"), (cA5, .int), (cA8, .int), (cA11, .int), (cA14, .int), (cA19, .long), (cA20, .int), (cA25, .int), (cA26, .int), (cA27, .int), (cA32, .int), (cA33, .int), (cA34, .int), (cA39, .int), (cA40, .int), (cA41, .int)] s := hK
  refine va_putF (D := D) (ci := 6) (v := .ref q35) (ty := .object "PondRings$Listing") (C := RX6) (T := TX6) (N := 11) hx hb htb mu_6 tyX6 tyX6_ok nmX6 hown hK hP hD hS 0 rfl rfl 5 (by decide) (htb _ wf_6_44) (fun _ h9 => h9) rfl hin rfl (by decide +kernel) rfl rfl (Nat.le_of_ble_eq_true rfl) di_6_96 (fun H locs hP hD hS => ?_)
  have hP : va_P D mm_K [(h0, .inr (6, [.ref q1, .ref q15, .ref q16, .ref q21, .ref q28, .ref q35, .null, .null, .null, .int 0, .int 0])), (q1, .inl (cA2, 4, .inr (.inr (.inr (.inr (va_up (va_up (va_up (va_up (fun _ => none) 0 (some q3)) 1 (some q6)) 2 (some q9)) 3 (some q12))))))), (q3, .inr (4, [.ref q4, .int 0, .int 0, .int 0])), (q4, .inl (cA5, 60, .inl (fun _ => 0))), (q6, .inr (4, [.ref q7, .int 0, .int 0, .int 0])), (q7, .inl (cA8, 60, .inl (fun _ => 0))), (q9, .inr (4, [.ref q10, .int 0, .int 0, .int 0])), (q10, .inl (cA11, 60, .inl (fun _ => 0))), (q12, .inr (4, [.ref q13, .int 0, .int 0, .int 0])), (q13, .inl (cA14, 60, .inl (fun _ => 0))), (q15, .inr (3, [.int 0, .int 0, .long 0])), (q16, .inr (2, [.ref q17, .ref q18, .long 0, .long 0, .long 0, .int 0, .int 0, .long 0])), (q17, .inl (cA19, 1764, .inr (.inl (fun _ => 0)))), (q18, .inl (cA20, 42, .inl (fun _ => 0))), (q21, .inr (0, [.ref q22, .ref q23, .ref q24, .int 0])), (q22, .inl (cA25, 8, .inl (fun _ => 0))), (q23, .inl (cA26, 8, .inl (fun _ => 0))), (q24, .inl (cA27, 8, .inl (fun _ => 0))), (q28, .inr (0, [.ref q29, .ref q30, .ref q31, .int 0])), (q29, .inl (cA32, 6, .inl (fun _ => 0))), (q30, .inl (cA33, 6, .inl (fun _ => 0))), (q31, .inl (cA34, 6, .inl (fun _ => 0))), (q35, .inr (0, [.ref q36, .ref q37, .ref q38, .int 0])), (q36, .inl (cA39, 6, .inl (fun _ => 0))), (q37, .inl (cA40, 6, .inl (fun _ => 0))), (q38, .inl (cA41, 6, .inl (fun _ => 0)))] H := hP
  have hD : va_D A [(h0, .inr (6, [.ref q1, .ref q15, .ref q16, .ref q21, .ref q28, .ref q35, .null, .null, .null, .int 0, .int 0])), (q1, .inl (cA2, 4, .inr (.inr (.inr (.inr (va_up (va_up (va_up (va_up (fun _ => none) 0 (some q3)) 1 (some q6)) 2 (some q9)) 3 (some q12))))))), (q3, .inr (4, [.ref q4, .int 0, .int 0, .int 0])), (q4, .inl (cA5, 60, .inl (fun _ => 0))), (q6, .inr (4, [.ref q7, .int 0, .int 0, .int 0])), (q7, .inl (cA8, 60, .inl (fun _ => 0))), (q9, .inr (4, [.ref q10, .int 0, .int 0, .int 0])), (q10, .inl (cA11, 60, .inl (fun _ => 0))), (q12, .inr (4, [.ref q13, .int 0, .int 0, .int 0])), (q13, .inl (cA14, 60, .inl (fun _ => 0))), (q15, .inr (3, [.int 0, .int 0, .long 0])), (q16, .inr (2, [.ref q17, .ref q18, .long 0, .long 0, .long 0, .int 0, .int 0, .long 0])), (q17, .inl (cA19, 1764, .inr (.inl (fun _ => 0)))), (q18, .inl (cA20, 42, .inl (fun _ => 0))), (q21, .inr (0, [.ref q22, .ref q23, .ref q24, .int 0])), (q22, .inl (cA25, 8, .inl (fun _ => 0))), (q23, .inl (cA26, 8, .inl (fun _ => 0))), (q24, .inl (cA27, 8, .inl (fun _ => 0))), (q28, .inr (0, [.ref q29, .ref q30, .ref q31, .int 0])), (q29, .inl (cA32, 6, .inl (fun _ => 0))), (q30, .inl (cA33, 6, .inl (fun _ => 0))), (q31, .inl (cA34, 6, .inl (fun _ => 0))), (q35, .inr (0, [.ref q36, .ref q37, .ref q38, .int 0])), (q36, .inl (cA39, 6, .inl (fun _ => 0))), (q37, .inl (cA40, 6, .inl (fun _ => 0))), (q38, .inl (cA41, 6, .inl (fun _ => 0)))] := hD
  refine lv_aload_n hx hb di_6_99 rfl (lv_at hl 1 rfl) ?_
  refine va_new (ci := 1) (fs := [.int 0, .int 0]) (C := RX1) (T := TX1) (N := 2) hx hb htb mu_1 tyX1 tyX1_ok hown (htb _ wl_6_47) (htb _ wc_able_1) (htb _ wc_ini_1) hK hP hD hS hA rfl md_1 (Nat.le_of_ble_eq_true rfl) (Nat.le_of_ble_eq_true rfl) di_6_100 (fun q42 H hP hD hS => ?_)
  have hP : va_P D mm_K [(h0, .inr (6, [.ref q1, .ref q15, .ref q16, .ref q21, .ref q28, .ref q35, .null, .null, .null, .int 0, .int 0])), (q1, .inl (cA2, 4, .inr (.inr (.inr (.inr (va_up (va_up (va_up (va_up (fun _ => none) 0 (some q3)) 1 (some q6)) 2 (some q9)) 3 (some q12))))))), (q3, .inr (4, [.ref q4, .int 0, .int 0, .int 0])), (q4, .inl (cA5, 60, .inl (fun _ => 0))), (q6, .inr (4, [.ref q7, .int 0, .int 0, .int 0])), (q7, .inl (cA8, 60, .inl (fun _ => 0))), (q9, .inr (4, [.ref q10, .int 0, .int 0, .int 0])), (q10, .inl (cA11, 60, .inl (fun _ => 0))), (q12, .inr (4, [.ref q13, .int 0, .int 0, .int 0])), (q13, .inl (cA14, 60, .inl (fun _ => 0))), (q15, .inr (3, [.int 0, .int 0, .long 0])), (q16, .inr (2, [.ref q17, .ref q18, .long 0, .long 0, .long 0, .int 0, .int 0, .long 0])), (q17, .inl (cA19, 1764, .inr (.inl (fun _ => 0)))), (q18, .inl (cA20, 42, .inl (fun _ => 0))), (q21, .inr (0, [.ref q22, .ref q23, .ref q24, .int 0])), (q22, .inl (cA25, 8, .inl (fun _ => 0))), (q23, .inl (cA26, 8, .inl (fun _ => 0))), (q24, .inl (cA27, 8, .inl (fun _ => 0))), (q28, .inr (0, [.ref q29, .ref q30, .ref q31, .int 0])), (q29, .inl (cA32, 6, .inl (fun _ => 0))), (q30, .inl (cA33, 6, .inl (fun _ => 0))), (q31, .inl (cA34, 6, .inl (fun _ => 0))), (q35, .inr (0, [.ref q36, .ref q37, .ref q38, .int 0])), (q36, .inl (cA39, 6, .inl (fun _ => 0))), (q37, .inl (cA40, 6, .inl (fun _ => 0))), (q38, .inl (cA41, 6, .inl (fun _ => 0))), (q42, .inr (1, [.int 0, .int 0]))] H := hP
  have hD : va_D A [(h0, .inr (6, [.ref q1, .ref q15, .ref q16, .ref q21, .ref q28, .ref q35, .null, .null, .null, .int 0, .int 0])), (q1, .inl (cA2, 4, .inr (.inr (.inr (.inr (va_up (va_up (va_up (va_up (fun _ => none) 0 (some q3)) 1 (some q6)) 2 (some q9)) 3 (some q12))))))), (q3, .inr (4, [.ref q4, .int 0, .int 0, .int 0])), (q4, .inl (cA5, 60, .inl (fun _ => 0))), (q6, .inr (4, [.ref q7, .int 0, .int 0, .int 0])), (q7, .inl (cA8, 60, .inl (fun _ => 0))), (q9, .inr (4, [.ref q10, .int 0, .int 0, .int 0])), (q10, .inl (cA11, 60, .inl (fun _ => 0))), (q12, .inr (4, [.ref q13, .int 0, .int 0, .int 0])), (q13, .inl (cA14, 60, .inl (fun _ => 0))), (q15, .inr (3, [.int 0, .int 0, .long 0])), (q16, .inr (2, [.ref q17, .ref q18, .long 0, .long 0, .long 0, .int 0, .int 0, .long 0])), (q17, .inl (cA19, 1764, .inr (.inl (fun _ => 0)))), (q18, .inl (cA20, 42, .inl (fun _ => 0))), (q21, .inr (0, [.ref q22, .ref q23, .ref q24, .int 0])), (q22, .inl (cA25, 8, .inl (fun _ => 0))), (q23, .inl (cA26, 8, .inl (fun _ => 0))), (q24, .inl (cA27, 8, .inl (fun _ => 0))), (q28, .inr (0, [.ref q29, .ref q30, .ref q31, .int 0])), (q29, .inl (cA32, 6, .inl (fun _ => 0))), (q30, .inl (cA33, 6, .inl (fun _ => 0))), (q31, .inl (cA34, 6, .inl (fun _ => 0))), (q35, .inr (0, [.ref q36, .ref q37, .ref q38, .int 0])), (q36, .inl (cA39, 6, .inl (fun _ => 0))), (q37, .inl (cA40, 6, .inl (fun _ => 0))), (q38, .inl (cA41, 6, .inl (fun _ => 0))), (q42, .inr (1, [.int 0, .int 0]))] := hD
  refine lv_dup hx hb di_6_103 rfl ?_
  have hPc := hP.sub (ws' := [(q42, .inr (1, [.int 0, .int 0]))]) [26] rfl
  have hDc := hD.sub (ws' := [(q42, .inr (1, [.int 0, .int 0]))]) [26] (by decide) rfl
  have hKc := hK.sub (tys' := []) [] rfl
  have hFc := va_free (wc := [(q42, .inr (1, [.int 0, .int 0]))]) hD hS hA [26] rfl
  refine va_callv (va_runIN (As := []) (rest := [.ref q42, .ref h0]) ⟨hx, hb, hml, hown, htb⟩ (c_X1 l D q42 H.size) ⟨va_cnB 0 htb (wg wc_code_1) rfl rfl rfl hN.2.2.2.1 (htb _ wc_ini_1) ⟨by decide +kernel, by decide +kernel, by decide +kernel⟩ ⟨Nat.le_of_ble_eq_true rfl, Nat.le_of_ble_eq_true rfl⟩, rfl, htb _ wc_inst_1⟩ ⟨fun a U g mk q => by obtain ⟨q0, q1, qP, qK, qD⟩ := q; exact ⟨q0, q1, qP, va_K.moved (u := U) (U := U.calling g mk a) (Vm.Alike.refl U.vm) qK, qD⟩, fun U hU hW => ⟨rfl, by rw [hU], by rw [hU]; exact hPc, va_K.moved hW.alike hKc, hDc.weaken (fun _ _ _ _ => trivial)⟩⟩ rfl rfl hl.1 rfl (lv_room (Nat.le_of_ble_eq_true rfl)) di_6_104 ⟨Nat.le_of_ble_eq_true rfl, Nat.le_of_ble_eq_true rfl⟩) hS (fun q _ h => hFc q h) hFc (fun u t H1 locs ht hvm hw hB hz1 hk1 hS => ?_)
  obtain ⟨hP1, hK1, hD1⟩ := hB
  rw [ht] at hP1
  have hK1 := va_K.moved hvm.symm hK1
  obtain ⟨hP, hD⟩ := va_join (wr := [(h0, .inr (6, [.ref q1, .ref q15, .ref q16, .ref q21, .ref q28, .ref q35, .null, .null, .null, .int 0, .int 0])), (q1, .inl (cA2, 4, .inr (.inr (.inr (.inr (va_up (va_up (va_up (va_up (fun _ => none) 0 (some q3)) 1 (some q6)) 2 (some q9)) 3 (some q12))))))), (q3, .inr (4, [.ref q4, .int 0, .int 0, .int 0])), (q4, .inl (cA5, 60, .inl (fun _ => 0))), (q6, .inr (4, [.ref q7, .int 0, .int 0, .int 0])), (q7, .inl (cA8, 60, .inl (fun _ => 0))), (q9, .inr (4, [.ref q10, .int 0, .int 0, .int 0])), (q10, .inl (cA11, 60, .inl (fun _ => 0))), (q12, .inr (4, [.ref q13, .int 0, .int 0, .int 0])), (q13, .inl (cA14, 60, .inl (fun _ => 0))), (q15, .inr (3, [.int 0, .int 0, .long 0])), (q16, .inr (2, [.ref q17, .ref q18, .long 0, .long 0, .long 0, .int 0, .int 0, .long 0])), (q17, .inl (cA19, 1764, .inr (.inl (fun _ => 0)))), (q18, .inl (cA20, 42, .inl (fun _ => 0))), (q21, .inr (0, [.ref q22, .ref q23, .ref q24, .int 0])), (q22, .inl (cA25, 8, .inl (fun _ => 0))), (q23, .inl (cA26, 8, .inl (fun _ => 0))), (q24, .inl (cA27, 8, .inl (fun _ => 0))), (q28, .inr (0, [.ref q29, .ref q30, .ref q31, .int 0])), (q29, .inl (cA32, 6, .inl (fun _ => 0))), (q30, .inl (cA33, 6, .inl (fun _ => 0))), (q31, .inl (cA34, 6, .inl (fun _ => 0))), (q35, .inr (0, [.ref q36, .ref q37, .ref q38, .int 0])), (q36, .inl (cA39, 6, .inl (fun _ => 0))), (q37, .inl (cA40, 6, .inl (fun _ => 0))), (q38, .inl (cA41, 6, .inl (fun _ => 0)))]) (w1 := [(q42, .inr (1, [.int 0, .int 0]))]) hP hD [26] [0, 1, 2, 3, 4, 5, 6, 7, 8, 9, 10, 11, 12, 13, 14, 15, 16, 17, 18, 19, 20, 21, 22, 23, 24, 25] rfl rfl (by decide) (by decide) hk1 hFc hP1 hD1
  have hK := (hK.sub (tys' := [(cA2, .object "PondRings$Sheet"), (cA5, .int), (cA8, .int), (cA11, .int), (cA14, .int), (cA19, .long), (cA20, .int), (cA25, .int), (cA26, .int), (cA27, .int), (cA32, .int), (cA33, .int), (cA34, .int), (cA39, .int), (cA40, .int), (cA41, .int)]) [0, 1, 2, 3, 4, 5, 6, 7, 8, 9, 10, 11, 12, 13, 14, 15] rfl).app hK1
  generalize H1 = H at hP hS ⊢
  have hP : va_P D mm_K [(h0, .inr (6, [.ref q1, .ref q15, .ref q16, .ref q21, .ref q28, .ref q35, .null, .null, .null, .int 0, .int 0])), (q1, .inl (cA2, 4, .inr (.inr (.inr (.inr (va_up (va_up (va_up (va_up (fun _ => none) 0 (some q3)) 1 (some q6)) 2 (some q9)) 3 (some q12))))))), (q3, .inr (4, [.ref q4, .int 0, .int 0, .int 0])), (q4, .inl (cA5, 60, .inl (fun _ => 0))), (q6, .inr (4, [.ref q7, .int 0, .int 0, .int 0])), (q7, .inl (cA8, 60, .inl (fun _ => 0))), (q9, .inr (4, [.ref q10, .int 0, .int 0, .int 0])), (q10, .inl (cA11, 60, .inl (fun _ => 0))), (q12, .inr (4, [.ref q13, .int 0, .int 0, .int 0])), (q13, .inl (cA14, 60, .inl (fun _ => 0))), (q15, .inr (3, [.int 0, .int 0, .long 0])), (q16, .inr (2, [.ref q17, .ref q18, .long 0, .long 0, .long 0, .int 0, .int 0, .long 0])), (q17, .inl (cA19, 1764, .inr (.inl (fun _ => 0)))), (q18, .inl (cA20, 42, .inl (fun _ => 0))), (q21, .inr (0, [.ref q22, .ref q23, .ref q24, .int 0])), (q22, .inl (cA25, 8, .inl (fun _ => 0))), (q23, .inl (cA26, 8, .inl (fun _ => 0))), (q24, .inl (cA27, 8, .inl (fun _ => 0))), (q28, .inr (0, [.ref q29, .ref q30, .ref q31, .int 0])), (q29, .inl (cA32, 6, .inl (fun _ => 0))), (q30, .inl (cA33, 6, .inl (fun _ => 0))), (q31, .inl (cA34, 6, .inl (fun _ => 0))), (q35, .inr (0, [.ref q36, .ref q37, .ref q38, .int 0])), (q36, .inl (cA39, 6, .inl (fun _ => 0))), (q37, .inl (cA40, 6, .inl (fun _ => 0))), (q38, .inl (cA41, 6, .inl (fun _ => 0))), (q42, .inr (1, [.int 0, .int 0]))] H := hP
  have hD : va_D A [(h0, .inr (6, [.ref q1, .ref q15, .ref q16, .ref q21, .ref q28, .ref q35, .null, .null, .null, .int 0, .int 0])), (q1, .inl (cA2, 4, .inr (.inr (.inr (.inr (va_up (va_up (va_up (va_up (fun _ => none) 0 (some q3)) 1 (some q6)) 2 (some q9)) 3 (some q12))))))), (q3, .inr (4, [.ref q4, .int 0, .int 0, .int 0])), (q4, .inl (cA5, 60, .inl (fun _ => 0))), (q6, .inr (4, [.ref q7, .int 0, .int 0, .int 0])), (q7, .inl (cA8, 60, .inl (fun _ => 0))), (q9, .inr (4, [.ref q10, .int 0, .int 0, .int 0])), (q10, .inl (cA11, 60, .inl (fun _ => 0))), (q12, .inr (4, [.ref q13, .int 0, .int 0, .int 0])), (q13, .inl (cA14, 60, .inl (fun _ => 0))), (q15, .inr (3, [.int 0, .int 0, .long 0])), (q16, .inr (2, [.ref q17, .ref q18, .long 0, .long 0, .long 0, .int 0, .int 0, .long 0])), (q17, .inl (cA19, 1764, .inr (.inl (fun _ => 0)))), (q18, .inl (cA20, 42, .inl (fun _ => 0))), (q21, .inr (0, [.ref q22, .ref q23, .ref q24, .int 0])), (q22, .inl (cA25, 8, .inl (fun _ => 0))), (q23, .inl (cA26, 8, .inl (fun _ => 0))), (q24, .inl (cA27, 8, .inl (fun _ => 0))), (q28, .inr (0, [.ref q29, .ref q30, .ref q31, .int 0])), (q29, .inl (cA32, 6, .inl (fun _ => 0))), (q30, .inl (cA33, 6, .inl (fun _ => 0))), (q31, .inl (cA34, 6, .inl (fun _ => 0))), (q35, .inr (0, [.ref q36, .ref q37, .ref q38, .int 0])), (q36, .inl (cA39, 6, .inl (fun _ => 0))), (q37, .inl (cA40, 6, .inl (fun _ => 0))), (q38, .inl (cA41, 6, .inl (fun _ => 0))), (q42, .inr (1, [.int 0, .int 0]))] := hD
  have hK : va_K D mm_K [(cA2, .object "PondRings$Sheet"), (cA5, .int), (cA8, .int), (cA11, .int), (cA14, .int), (cA19, .long), (cA20, .int), (cA25, .int), (cA26, .int), (cA27, .int), (cA32, .int), (cA33, .int), (cA34, .int), (cA39, .int), (cA40, .int), (cA41, .int)] s := hK
  refine va_putF (D := D) (ci := 6) (v := .ref q42) (ty := .object "PondRings$Meeting") (C := RX6) (T := TX6) (N := 11) hx hb htb mu_6 tyX6 tyX6_ok nmX6 hown hK hP hD hS 0 rfl rfl 6 (by decide) (htb _ wf_6_50) (fun _ h9 => h9) rfl hin rfl (by decide +kernel) rfl rfl (Nat.le_of_ble_eq_true rfl) di_6_107 (fun H locs hP hD hS => ?_)
  have hP : va_P D mm_K [(h0, .inr (6, [.ref q1, .ref q15, .ref q16, .ref q21, .ref q28, .ref q35, .ref q42, .null, .null, .int 0, .int 0])), (q1, .inl (cA2, 4, .inr (.inr (.inr (.inr (va_up (va_up (va_up (va_up (fun _ => none) 0 (some q3)) 1 (some q6)) 2 (some q9)) 3 (some q12))))))), (q3, .inr (4, [.ref q4, .int 0, .int 0, .int 0])), (q4, .inl (cA5, 60, .inl (fun _ => 0))), (q6, .inr (4, [.ref q7, .int 0, .int 0, .int 0])), (q7, .inl (cA8, 60, .inl (fun _ => 0))), (q9, .inr (4, [.ref q10, .int 0, .int 0, .int 0])), (q10, .inl (cA11, 60, .inl (fun _ => 0))), (q12, .inr (4, [.ref q13, .int 0, .int 0, .int 0])), (q13, .inl (cA14, 60, .inl (fun _ => 0))), (q15, .inr (3, [.int 0, .int 0, .long 0])), (q16, .inr (2, [.ref q17, .ref q18, .long 0, .long 0, .long 0, .int 0, .int 0, .long 0])), (q17, .inl (cA19, 1764, .inr (.inl (fun _ => 0)))), (q18, .inl (cA20, 42, .inl (fun _ => 0))), (q21, .inr (0, [.ref q22, .ref q23, .ref q24, .int 0])), (q22, .inl (cA25, 8, .inl (fun _ => 0))), (q23, .inl (cA26, 8, .inl (fun _ => 0))), (q24, .inl (cA27, 8, .inl (fun _ => 0))), (q28, .inr (0, [.ref q29, .ref q30, .ref q31, .int 0])), (q29, .inl (cA32, 6, .inl (fun _ => 0))), (q30, .inl (cA33, 6, .inl (fun _ => 0))), (q31, .inl (cA34, 6, .inl (fun _ => 0))), (q35, .inr (0, [.ref q36, .ref q37, .ref q38, .int 0])), (q36, .inl (cA39, 6, .inl (fun _ => 0))), (q37, .inl (cA40, 6, .inl (fun _ => 0))), (q38, .inl (cA41, 6, .inl (fun _ => 0))), (q42, .inr (1, [.int 0, .int 0]))] H := hP
  have hD : va_D A [(h0, .inr (6, [.ref q1, .ref q15, .ref q16, .ref q21, .ref q28, .ref q35, .ref q42, .null, .null, .int 0, .int 0])), (q1, .inl (cA2, 4, .inr (.inr (.inr (.inr (va_up (va_up (va_up (va_up (fun _ => none) 0 (some q3)) 1 (some q6)) 2 (some q9)) 3 (some q12))))))), (q3, .inr (4, [.ref q4, .int 0, .int 0, .int 0])), (q4, .inl (cA5, 60, .inl (fun _ => 0))), (q6, .inr (4, [.ref q7, .int 0, .int 0, .int 0])), (q7, .inl (cA8, 60, .inl (fun _ => 0))), (q9, .inr (4, [.ref q10, .int 0, .int 0, .int 0])), (q10, .inl (cA11, 60, .inl (fun _ => 0))), (q12, .inr (4, [.ref q13, .int 0, .int 0, .int 0])), (q13, .inl (cA14, 60, .inl (fun _ => 0))), (q15, .inr (3, [.int 0, .int 0, .long 0])), (q16, .inr (2, [.ref q17, .ref q18, .long 0, .long 0, .long 0, .int 0, .int 0, .long 0])), (q17, .inl (cA19, 1764, .inr (.inl (fun _ => 0)))), (q18, .inl (cA20, 42, .inl (fun _ => 0))), (q21, .inr (0, [.ref q22, .ref q23, .ref q24, .int 0])), (q22, .inl (cA25, 8, .inl (fun _ => 0))), (q23, .inl (cA26, 8, .inl (fun _ => 0))), (q24, .inl (cA27, 8, .inl (fun _ => 0))), (q28, .inr (0, [.ref q29, .ref q30, .ref q31, .int 0])), (q29, .inl (cA32, 6, .inl (fun _ => 0))), (q30, .inl (cA33, 6, .inl (fun _ => 0))), (q31, .inl (cA34, 6, .inl (fun _ => 0))), (q35, .inr (0, [.ref q36, .ref q37, .ref q38, .int 0])), (q36, .inl (cA39, 6, .inl (fun _ => 0))), (q37, .inl (cA40, 6, .inl (fun _ => 0))), (q38, .inl (cA41, 6, .inl (fun _ => 0))), (q42, .inr (1, [.int 0, .int 0]))] := hD
  refine lv_aload_n hx hb di_6_110 rfl (lv_at hl 1 rfl) ?_
  refine va_new (ci := 5) (fs := [.null, .null, .null, .null, .int 0, .null, .null, .int 0]) (C := RX5) (T := TX5) (N := 8) hx hb htb mu_5 tyX5 tyX5_ok hown (htb _ wl_6_54) (htb _ wc_able_5) (htb _ wc_ini_5) hK hP hD hS hA rfl md_5 (Nat.le_of_ble_eq_true rfl) (Nat.le_of_ble_eq_true rfl) di_6_111 (fun q43 H hP hD hS => ?_)
  have hP : va_P D mm_K [(h0, .inr (6, [.ref q1, .ref q15, .ref q16, .ref q21, .ref q28, .ref q35, .ref q42, .null, .null, .int 0, .int 0])), (q1, .inl (cA2, 4, .inr (.inr (.inr (.inr (va_up (va_up (va_up (va_up (fun _ => none) 0 (some q3)) 1 (some q6)) 2 (some q9)) 3 (some q12))))))), (q3, .inr (4, [.ref q4, .int 0, .int 0, .int 0])), (q4, .inl (cA5, 60, .inl (fun _ => 0))), (q6, .inr (4, [.ref q7, .int 0, .int 0, .int 0])), (q7, .inl (cA8, 60, .inl (fun _ => 0))), (q9, .inr (4, [.ref q10, .int 0, .int 0, .int 0])), (q10, .inl (cA11, 60, .inl (fun _ => 0))), (q12, .inr (4, [.ref q13, .int 0, .int 0, .int 0])), (q13, .inl (cA14, 60, .inl (fun _ => 0))), (q15, .inr (3, [.int 0, .int 0, .long 0])), (q16, .inr (2, [.ref q17, .ref q18, .long 0, .long 0, .long 0, .int 0, .int 0, .long 0])), (q17, .inl (cA19, 1764, .inr (.inl (fun _ => 0)))), (q18, .inl (cA20, 42, .inl (fun _ => 0))), (q21, .inr (0, [.ref q22, .ref q23, .ref q24, .int 0])), (q22, .inl (cA25, 8, .inl (fun _ => 0))), (q23, .inl (cA26, 8, .inl (fun _ => 0))), (q24, .inl (cA27, 8, .inl (fun _ => 0))), (q28, .inr (0, [.ref q29, .ref q30, .ref q31, .int 0])), (q29, .inl (cA32, 6, .inl (fun _ => 0))), (q30, .inl (cA33, 6, .inl (fun _ => 0))), (q31, .inl (cA34, 6, .inl (fun _ => 0))), (q35, .inr (0, [.ref q36, .ref q37, .ref q38, .int 0])), (q36, .inl (cA39, 6, .inl (fun _ => 0))), (q37, .inl (cA40, 6, .inl (fun _ => 0))), (q38, .inl (cA41, 6, .inl (fun _ => 0))), (q42, .inr (1, [.int 0, .int 0])), (q43, .inr (5, [.null, .null, .null, .null, .int 0, .null, .null, .int 0]))] H := hP
  have hD : va_D A [(h0, .inr (6, [.ref q1, .ref q15, .ref q16, .ref q21, .ref q28, .ref q35, .ref q42, .null, .null, .int 0, .int 0])), (q1, .inl (cA2, 4, .inr (.inr (.inr (.inr (va_up (va_up (va_up (va_up (fun _ => none) 0 (some q3)) 1 (some q6)) 2 (some q9)) 3 (some q12))))))), (q3, .inr (4, [.ref q4, .int 0, .int 0, .int 0])), (q4, .inl (cA5, 60, .inl (fun _ => 0))), (q6, .inr (4, [.ref q7, .int 0, .int 0, .int 0])), (q7, .inl (cA8, 60, .inl (fun _ => 0))), (q9, .inr (4, [.ref q10, .int 0, .int 0, .int 0])), (q10, .inl (cA11, 60, .inl (fun _ => 0))), (q12, .inr (4, [.ref q13, .int 0, .int 0, .int 0])), (q13, .inl (cA14, 60, .inl (fun _ => 0))), (q15, .inr (3, [.int 0, .int 0, .long 0])), (q16, .inr (2, [.ref q17, .ref q18, .long 0, .long 0, .long 0, .int 0, .int 0, .long 0])), (q17, .inl (cA19, 1764, .inr (.inl (fun _ => 0)))), (q18, .inl (cA20, 42, .inl (fun _ => 0))), (q21, .inr (0, [.ref q22, .ref q23, .ref q24, .int 0])), (q22, .inl (cA25, 8, .inl (fun _ => 0))), (q23, .inl (cA26, 8, .inl (fun _ => 0))), (q24, .inl (cA27, 8, .inl (fun _ => 0))), (q28, .inr (0, [.ref q29, .ref q30, .ref q31, .int 0])), (q29, .inl (cA32, 6, .inl (fun _ => 0))), (q30, .inl (cA33, 6, .inl (fun _ => 0))), (q31, .inl (cA34, 6, .inl (fun _ => 0))), (q35, .inr (0, [.ref q36, .ref q37, .ref q38, .int 0])), (q36, .inl (cA39, 6, .inl (fun _ => 0))), (q37, .inl (cA40, 6, .inl (fun _ => 0))), (q38, .inl (cA41, 6, .inl (fun _ => 0))), (q42, .inr (1, [.int 0, .int 0])), (q43, .inr (5, [.null, .null, .null, .null, .int 0, .null, .null, .int 0]))] := hD
  refine lv_dup hx hb di_6_114 rfl ?_
  have hPc := hP.sub (ws' := [(q43, .inr (5, [.null, .null, .null, .null, .int 0, .null, .null, .int 0]))]) [27] rfl
  have hDc := hD.sub (ws' := [(q43, .inr (5, [.null, .null, .null, .null, .int 0, .null, .null, .int 0]))]) [27] (by decide) rfl
  have hKc := hK.sub (tys' := []) [] rfl
  have hFc := va_free (wc := [(q43, .inr (5, [.null, .null, .null, .null, .int 0, .null, .null, .int 0]))]) hD hS hA [27] rfl
  refine va_callv (va_runIN (As := []) (rest := [.ref q43, .ref h0]) ⟨hx, hb, hml, hown, htb⟩ (c_X5 l D q43 H.size) ⟨va_cnB 0 htb (wg wc_code_5) rfl rfl rfl hN.2.2.2.2.1 (htb _ wc_ini_5) ⟨by decide +kernel, by decide +kernel, by decide +kernel⟩ ⟨Nat.le_of_ble_eq_true rfl, Nat.le_of_ble_eq_true rfl⟩, rfl, htb _ wc_inst_5⟩ ⟨fun a U g mk q => by obtain ⟨q0, q1, qP, qK, qD⟩ := q; exact ⟨q0, q1, qP, va_K.moved (u := U) (U := U.calling g mk a) (Vm.Alike.refl U.vm) qK, qD⟩, fun U hU hW => ⟨rfl, by rw [hU], by rw [hU]; exact hPc, va_K.moved hW.alike hKc, hDc.weaken (fun _ _ _ _ => trivial)⟩⟩ rfl rfl hl.1 rfl (lv_room (Nat.le_of_ble_eq_true rfl)) di_6_115 ⟨Nat.le_of_ble_eq_true rfl, Nat.le_of_ble_eq_true rfl⟩) hS (fun q _ h => hFc q h) hFc (fun u t H1 locs ht hvm hw hB hz1 hk1 hS => ?_)
  obtain ⟨q44, q45, q46, q47, q48, q49, cA50, cA51, cA52, cA53, cA54, cA55, hP1, hK1, hD1⟩ := hB
  rw [ht] at hP1
  have hK1 := va_K.moved hvm.symm hK1
  obtain ⟨hP, hD⟩ := va_join (wr := [(h0, .inr (6, [.ref q1, .ref q15, .ref q16, .ref q21, .ref q28, .ref q35, .ref q42, .null, .null, .int 0, .int 0])), (q1, .inl (cA2, 4, .inr (.inr (.inr (.inr (va_up (va_up (va_up (va_up (fun _ => none) 0 (some q3)) 1 (some q6)) 2 (some q9)) 3 (some q12))))))), (q3, .inr (4, [.ref q4, .int 0, .int 0, .int 0])), (q4, .inl (cA5, 60, .inl (fun _ => 0))), (q6, .inr (4, [.ref q7, .int 0, .int 0, .int 0])), (q7, .inl (cA8, 60, .inl (fun _ => 0))), (q9, .inr (4, [.ref q10, .int 0, .int 0, .int 0])), (q10, .inl (cA11, 60, .inl (fun _ => 0))), (q12, .inr (4, [.ref q13, .int 0, .int 0, .int 0])), (q13, .inl (cA14, 60, .inl (fun _ => 0))), (q15, .inr (3, [.int 0, .int 0, .long 0])), (q16, .inr (2, [.ref q17, .ref q18, .long 0, .long 0, .long 0, .int 0, .int 0, .long 0])), (q17, .inl (cA19, 1764, .inr (.inl (fun _ => 0)))), (q18, .inl (cA20, 42, .inl (fun _ => 0))), (q21, .inr (0, [.ref q22, .ref q23, .ref q24, .int 0])), (q22, .inl (cA25, 8, .inl (fun _ => 0))), (q23, .inl (cA26, 8, .inl (fun _ => 0))), (q24, .inl (cA27, 8, .inl (fun _ => 0))), (q28, .inr (0, [.ref q29, .ref q30, .ref q31, .int 0])), (q29, .inl (cA32, 6, .inl (fun _ => 0))), (q30, .inl (cA33, 6, .inl (fun _ => 0))), (q31, .inl (cA34, 6, .inl (fun _ => 0))), (q35, .inr (0, [.ref q36, .ref q37, .ref q38, .int 0])), (q36, .inl (cA39, 6, .inl (fun _ => 0))), (q37, .inl (cA40, 6, .inl (fun _ => 0))), (q38, .inl (cA41, 6, .inl (fun _ => 0))), (q42, .inr (1, [.int 0, .int 0]))]) (w1 := [(q43, .inr (5, [.ref q44, .ref q45, .ref q46, .ref q47, .int 0, .ref q48, .ref q49, .int 0])), (q44, .inl (cA50, 36, .inr (.inl (fun _ => 0)))), (q45, .inl (cA51, 36, .inr (.inl (fun _ => 0)))), (q46, .inl (cA52, 36, .inr (.inl (fun _ => 0)))), (q47, .inl (cA53, 6, .inl (fun _ => 0))), (q48, .inl (cA54, 6, .inl (fun _ => 0))), (q49, .inl (cA55, 6, .inl (fun _ => 0)))]) hP hD [27] [0, 1, 2, 3, 4, 5, 6, 7, 8, 9, 10, 11, 12, 13, 14, 15, 16, 17, 18, 19, 20, 21, 22, 23, 24, 25, 26] rfl rfl (by decide) (by decide) hk1 hFc hP1 hD1
  have hK := (hK.sub (tys' := [(cA2, .object "PondRings$Sheet"), (cA5, .int), (cA8, .int), (cA11, .int), (cA14, .int), (cA19, .long), (cA20, .int), (cA25, .int), (cA26, .int), (cA27, .int), (cA32, .int), (cA33, .int), (cA34, .int), (cA39, .int), (cA40, .int), (cA41, .int)]) [0, 1, 2, 3, 4, 5, 6, 7, 8, 9, 10, 11, 12, 13, 14, 15] rfl).app hK1
  generalize H1 = H at hP hS ⊢
  have hP : va_P D mm_K [(h0, .inr (6, [.ref q1, .ref q15, .ref q16, .ref q21, .ref q28, .ref q35, .ref q42, .null, .null, .int 0, .int 0])), (q1, .inl (cA2, 4, .inr (.inr (.inr (.inr (va_up (va_up (va_up (va_up (fun _ => none) 0 (some q3)) 1 (some q6)) 2 (some q9)) 3 (some q12))))))), (q3, .inr (4, [.ref q4, .int 0, .int 0, .int 0])), (q4, .inl (cA5, 60, .inl (fun _ => 0))), (q6, .inr (4, [.ref q7, .int 0, .int 0, .int 0])), (q7, .inl (cA8, 60, .inl (fun _ => 0))), (q9, .inr (4, [.ref q10, .int 0, .int 0, .int 0])), (q10, .inl (cA11, 60, .inl (fun _ => 0))), (q12, .inr (4, [.ref q13, .int 0, .int 0, .int 0])), (q13, .inl (cA14, 60, .inl (fun _ => 0))), (q15, .inr (3, [.int 0, .int 0, .long 0])), (q16, .inr (2, [.ref q17, .ref q18, .long 0, .long 0, .long 0, .int 0, .int 0, .long 0])), (q17, .inl (cA19, 1764, .inr (.inl (fun _ => 0)))), (q18, .inl (cA20, 42, .inl (fun _ => 0))), (q21, .inr (0, [.ref q22, .ref q23, .ref q24, .int 0])), (q22, .inl (cA25, 8, .inl (fun _ => 0))), (q23, .inl (cA26, 8, .inl (fun _ => 0))), (q24, .inl (cA27, 8, .inl (fun _ => 0))), (q28, .inr (0, [.ref q29, .ref q30, .ref q31, .int 0])), (q29, .inl (cA32, 6, .inl (fun _ => 0))), (q30, .inl (cA33, 6, .inl (fun _ => 0))), (q31, .inl (cA34, 6, .inl (fun _ => 0))), (q35, .inr (0, [.ref q36, .ref q37, .ref q38, .int 0])), (q36, .inl (cA39, 6, .inl (fun _ => 0))), (q37, .inl (cA40, 6, .inl (fun _ => 0))), (q38, .inl (cA41, 6, .inl (fun _ => 0))), (q42, .inr (1, [.int 0, .int 0])), (q43, .inr (5, [.ref q44, .ref q45, .ref q46, .ref q47, .int 0, .ref q48, .ref q49, .int 0])), (q44, .inl (cA50, 36, .inr (.inl (fun _ => 0)))), (q45, .inl (cA51, 36, .inr (.inl (fun _ => 0)))), (q46, .inl (cA52, 36, .inr (.inl (fun _ => 0)))), (q47, .inl (cA53, 6, .inl (fun _ => 0))), (q48, .inl (cA54, 6, .inl (fun _ => 0))), (q49, .inl (cA55, 6, .inl (fun _ => 0)))] H := hP
  have hD : va_D A [(h0, .inr (6, [.ref q1, .ref q15, .ref q16, .ref q21, .ref q28, .ref q35, .ref q42, .null, .null, .int 0, .int 0])), (q1, .inl (cA2, 4, .inr (.inr (.inr (.inr (va_up (va_up (va_up (va_up (fun _ => none) 0 (some q3)) 1 (some q6)) 2 (some q9)) 3 (some q12))))))), (q3, .inr (4, [.ref q4, .int 0, .int 0, .int 0])), (q4, .inl (cA5, 60, .inl (fun _ => 0))), (q6, .inr (4, [.ref q7, .int 0, .int 0, .int 0])), (q7, .inl (cA8, 60, .inl (fun _ => 0))), (q9, .inr (4, [.ref q10, .int 0, .int 0, .int 0])), (q10, .inl (cA11, 60, .inl (fun _ => 0))), (q12, .inr (4, [.ref q13, .int 0, .int 0, .int 0])), (q13, .inl (cA14, 60, .inl (fun _ => 0))), (q15, .inr (3, [.int 0, .int 0, .long 0])), (q16, .inr (2, [.ref q17, .ref q18, .long 0, .long 0, .long 0, .int 0, .int 0, .long 0])), (q17, .inl (cA19, 1764, .inr (.inl (fun _ => 0)))), (q18, .inl (cA20, 42, .inl (fun _ => 0))), (q21, .inr (0, [.ref q22, .ref q23, .ref q24, .int 0])), (q22, .inl (cA25, 8, .inl (fun _ => 0))), (q23, .inl (cA26, 8, .inl (fun _ => 0))), (q24, .inl (cA27, 8, .inl (fun _ => 0))), (q28, .inr (0, [.ref q29, .ref q30, .ref q31, .int 0])), (q29, .inl (cA32, 6, .inl (fun _ => 0))), (q30, .inl (cA33, 6, .inl (fun _ => 0))), (q31, .inl (cA34, 6, .inl (fun _ => 0))), (q35, .inr (0, [.ref q36, .ref q37, .ref q38, .int 0])), (q36, .inl (cA39, 6, .inl (fun _ => 0))), (q37, .inl (cA40, 6, .inl (fun _ => 0))), (q38, .inl (cA41, 6, .inl (fun _ => 0))), (q42, .inr (1, [.int 0, .int 0])), (q43, .inr (5, [.ref q44, .ref q45, .ref q46, .ref q47, .int 0, .ref q48, .ref q49, .int 0])), (q44, .inl (cA50, 36, .inr (.inl (fun _ => 0)))), (q45, .inl (cA51, 36, .inr (.inl (fun _ => 0)))), (q46, .inl (cA52, 36, .inr (.inl (fun _ => 0)))), (q47, .inl (cA53, 6, .inl (fun _ => 0))), (q48, .inl (cA54, 6, .inl (fun _ => 0))), (q49, .inl (cA55, 6, .inl (fun _ => 0)))] := hD
  have hK : va_K D mm_K [(cA2, .object "PondRings$Sheet"), (cA5, .int), (cA8, .int), (cA11, .int), (cA14, .int), (cA19, .long), (cA20, .int), (cA25, .int), (cA26, .int), (cA27, .int), (cA32, .int), (cA33, .int), (cA34, .int), (cA39, .int), (cA40, .int), (cA41, .int), (cA50, .long), (cA51, .long), (cA52, .long), (cA53, .int), (cA54, .int), (cA55, .int)] s := hK
  refine va_putF (D := D) (ci := 6) (v := .ref q43) (ty := .object "PondRings$Timetable") (C := RX6) (T := TX6) (N := 11) hx hb htb mu_6 tyX6 tyX6_ok nmX6 hown hK hP hD hS 0 rfl rfl 7 (by decide) (htb _ wf_6_57) (fun _ h9 => h9) rfl hin rfl (by decide +kernel) rfl rfl (Nat.le_of_ble_eq_true rfl) di_6_118 (fun H locs hP hD hS => ?_)
  have hP : va_P D mm_K [(h0, .inr (6, [.ref q1, .ref q15, .ref q16, .ref q21, .ref q28, .ref q35, .ref q42, .ref q43, .null, .int 0, .int 0])), (q1, .inl (cA2, 4, .inr (.inr (.inr (.inr (va_up (va_up (va_up (va_up (fun _ => none) 0 (some q3)) 1 (some q6)) 2 (some q9)) 3 (some q12))))))), (q3, .inr (4, [.ref q4, .int 0, .int 0, .int 0])), (q4, .inl (cA5, 60, .inl (fun _ => 0))), (q6, .inr (4, [.ref q7, .int 0, .int 0, .int 0])), (q7, .inl (cA8, 60, .inl (fun _ => 0))), (q9, .inr (4, [.ref q10, .int 0, .int 0, .int 0])), (q10, .inl (cA11, 60, .inl (fun _ => 0))), (q12, .inr (4, [.ref q13, .int 0, .int 0, .int 0])), (q13, .inl (cA14, 60, .inl (fun _ => 0))), (q15, .inr (3, [.int 0, .int 0, .long 0])), (q16, .inr (2, [.ref q17, .ref q18, .long 0, .long 0, .long 0, .int 0, .int 0, .long 0])), (q17, .inl (cA19, 1764, .inr (.inl (fun _ => 0)))), (q18, .inl (cA20, 42, .inl (fun _ => 0))), (q21, .inr (0, [.ref q22, .ref q23, .ref q24, .int 0])), (q22, .inl (cA25, 8, .inl (fun _ => 0))), (q23, .inl (cA26, 8, .inl (fun _ => 0))), (q24, .inl (cA27, 8, .inl (fun _ => 0))), (q28, .inr (0, [.ref q29, .ref q30, .ref q31, .int 0])), (q29, .inl (cA32, 6, .inl (fun _ => 0))), (q30, .inl (cA33, 6, .inl (fun _ => 0))), (q31, .inl (cA34, 6, .inl (fun _ => 0))), (q35, .inr (0, [.ref q36, .ref q37, .ref q38, .int 0])), (q36, .inl (cA39, 6, .inl (fun _ => 0))), (q37, .inl (cA40, 6, .inl (fun _ => 0))), (q38, .inl (cA41, 6, .inl (fun _ => 0))), (q42, .inr (1, [.int 0, .int 0])), (q43, .inr (5, [.ref q44, .ref q45, .ref q46, .ref q47, .int 0, .ref q48, .ref q49, .int 0])), (q44, .inl (cA50, 36, .inr (.inl (fun _ => 0)))), (q45, .inl (cA51, 36, .inr (.inl (fun _ => 0)))), (q46, .inl (cA52, 36, .inr (.inl (fun _ => 0)))), (q47, .inl (cA53, 6, .inl (fun _ => 0))), (q48, .inl (cA54, 6, .inl (fun _ => 0))), (q49, .inl (cA55, 6, .inl (fun _ => 0)))] H := hP
  have hD : va_D A [(h0, .inr (6, [.ref q1, .ref q15, .ref q16, .ref q21, .ref q28, .ref q35, .ref q42, .ref q43, .null, .int 0, .int 0])), (q1, .inl (cA2, 4, .inr (.inr (.inr (.inr (va_up (va_up (va_up (va_up (fun _ => none) 0 (some q3)) 1 (some q6)) 2 (some q9)) 3 (some q12))))))), (q3, .inr (4, [.ref q4, .int 0, .int 0, .int 0])), (q4, .inl (cA5, 60, .inl (fun _ => 0))), (q6, .inr (4, [.ref q7, .int 0, .int 0, .int 0])), (q7, .inl (cA8, 60, .inl (fun _ => 0))), (q9, .inr (4, [.ref q10, .int 0, .int 0, .int 0])), (q10, .inl (cA11, 60, .inl (fun _ => 0))), (q12, .inr (4, [.ref q13, .int 0, .int 0, .int 0])), (q13, .inl (cA14, 60, .inl (fun _ => 0))), (q15, .inr (3, [.int 0, .int 0, .long 0])), (q16, .inr (2, [.ref q17, .ref q18, .long 0, .long 0, .long 0, .int 0, .int 0, .long 0])), (q17, .inl (cA19, 1764, .inr (.inl (fun _ => 0)))), (q18, .inl (cA20, 42, .inl (fun _ => 0))), (q21, .inr (0, [.ref q22, .ref q23, .ref q24, .int 0])), (q22, .inl (cA25, 8, .inl (fun _ => 0))), (q23, .inl (cA26, 8, .inl (fun _ => 0))), (q24, .inl (cA27, 8, .inl (fun _ => 0))), (q28, .inr (0, [.ref q29, .ref q30, .ref q31, .int 0])), (q29, .inl (cA32, 6, .inl (fun _ => 0))), (q30, .inl (cA33, 6, .inl (fun _ => 0))), (q31, .inl (cA34, 6, .inl (fun _ => 0))), (q35, .inr (0, [.ref q36, .ref q37, .ref q38, .int 0])), (q36, .inl (cA39, 6, .inl (fun _ => 0))), (q37, .inl (cA40, 6, .inl (fun _ => 0))), (q38, .inl (cA41, 6, .inl (fun _ => 0))), (q42, .inr (1, [.int 0, .int 0])), (q43, .inr (5, [.ref q44, .ref q45, .ref q46, .ref q47, .int 0, .ref q48, .ref q49, .int 0])), (q44, .inl (cA50, 36, .inr (.inl (fun _ => 0)))), (q45, .inl (cA51, 36, .inr (.inl (fun _ => 0)))), (q46, .inl (cA52, 36, .inr (.inl (fun _ => 0)))), (q47, .inl (cA53, 6, .inl (fun _ => 0))), (q48, .inl (cA54, 6, .inl (fun _ => 0))), (q49, .inl (cA55, 6, .inl (fun _ => 0)))] := hD
  refine lv_aload_n hx hb di_6_121 rfl (lv_at hl 1 rfl) ?_
  refine lv_bipush (v := 6) hx hb di_6_122 (by decide) ?_
  refine va_newa (atype := .int) (ty := .int) (a0 := (6, .inl (fun _ => 0))) hx hb (htb _ wa_int) rfl hK hP hD hS hA (fun _ => rfl) (by decide) rfl (by decide) (Nat.le_of_ble_eq_true rfl) (Nat.le_of_ble_eq_true rfl) di_6_124 (fun q56 cA57 H hK hP hD hS => ?_)
  have hP : va_P D mm_K [(h0, .inr (6, [.ref q1, .ref q15, .ref q16, .ref q21, .ref q28, .ref q35, .ref q42, .ref q43, .null, .int 0, .int 0])), (q1, .inl (cA2, 4, .inr (.inr (.inr (.inr (va_up (va_up (va_up (va_up (fun _ => none) 0 (some q3)) 1 (some q6)) 2 (some q9)) 3 (some q12))))))), (q3, .inr (4, [.ref q4, .int 0, .int 0, .int 0])), (q4, .inl (cA5, 60, .inl (fun _ => 0))), (q6, .inr (4, [.ref q7, .int 0, .int 0, .int 0])), (q7, .inl (cA8, 60, .inl (fun _ => 0))), (q9, .inr (4, [.ref q10, .int 0, .int 0, .int 0])), (q10, .inl (cA11, 60, .inl (fun _ => 0))), (q12, .inr (4, [.ref q13, .int 0, .int 0, .int 0])), (q13, .inl (cA14, 60, .inl (fun _ => 0))), (q15, .inr (3, [.int 0, .int 0, .long 0])), (q16, .inr (2, [.ref q17, .ref q18, .long 0, .long 0, .long 0, .int 0, .int 0, .long 0])), (q17, .inl (cA19, 1764, .inr (.inl (fun _ => 0)))), (q18, .inl (cA20, 42, .inl (fun _ => 0))), (q21, .inr (0, [.ref q22, .ref q23, .ref q24, .int 0])), (q22, .inl (cA25, 8, .inl (fun _ => 0))), (q23, .inl (cA26, 8, .inl (fun _ => 0))), (q24, .inl (cA27, 8, .inl (fun _ => 0))), (q28, .inr (0, [.ref q29, .ref q30, .ref q31, .int 0])), (q29, .inl (cA32, 6, .inl (fun _ => 0))), (q30, .inl (cA33, 6, .inl (fun _ => 0))), (q31, .inl (cA34, 6, .inl (fun _ => 0))), (q35, .inr (0, [.ref q36, .ref q37, .ref q38, .int 0])), (q36, .inl (cA39, 6, .inl (fun _ => 0))), (q37, .inl (cA40, 6, .inl (fun _ => 0))), (q38, .inl (cA41, 6, .inl (fun _ => 0))), (q42, .inr (1, [.int 0, .int 0])), (q43, .inr (5, [.ref q44, .ref q45, .ref q46, .ref q47, .int 0, .ref q48, .ref q49, .int 0])), (q44, .inl (cA50, 36, .inr (.inl (fun _ => 0)))), (q45, .inl (cA51, 36, .inr (.inl (fun _ => 0)))), (q46, .inl (cA52, 36, .inr (.inl (fun _ => 0)))), (q47, .inl (cA53, 6, .inl (fun _ => 0))), (q48, .inl (cA54, 6, .inl (fun _ => 0))), (q49, .inl (cA55, 6, .inl (fun _ => 0))), (q56, .inl (cA57, 6, .inl (fun _ => 0)))] H := hP
  have hD : va_D A [(h0, .inr (6, [.ref q1, .ref q15, .ref q16, .ref q21, .ref q28, .ref q35, .ref q42, .ref q43, .null, .int 0, .int 0])), (q1, .inl (cA2, 4, .inr (.inr (.inr (.inr (va_up (va_up (va_up (va_up (fun _ => none) 0 (some q3)) 1 (some q6)) 2 (some q9)) 3 (some q12))))))), (q3, .inr (4, [.ref q4, .int 0, .int 0, .int 0])), (q4, .inl (cA5, 60, .inl (fun _ => 0))), (q6, .inr (4, [.ref q7, .int 0, .int 0, .int 0])), (q7, .inl (cA8, 60, .inl (fun _ => 0))), (q9, .inr (4, [.ref q10, .int 0, .int 0, .int 0])), (q10, .inl (cA11, 60, .inl (fun _ => 0))), (q12, .inr (4, [.ref q13, .int 0, .int 0, .int 0])), (q13, .inl (cA14, 60, .inl (fun _ => 0))), (q15, .inr (3, [.int 0, .int 0, .long 0])), (q16, .inr (2, [.ref q17, .ref q18, .long 0, .long 0, .long 0, .int 0, .int 0, .long 0])), (q17, .inl (cA19, 1764, .inr (.inl (fun _ => 0)))), (q18, .inl (cA20, 42, .inl (fun _ => 0))), (q21, .inr (0, [.ref q22, .ref q23, .ref q24, .int 0])), (q22, .inl (cA25, 8, .inl (fun _ => 0))), (q23, .inl (cA26, 8, .inl (fun _ => 0))), (q24, .inl (cA27, 8, .inl (fun _ => 0))), (q28, .inr (0, [.ref q29, .ref q30, .ref q31, .int 0])), (q29, .inl (cA32, 6, .inl (fun _ => 0))), (q30, .inl (cA33, 6, .inl (fun _ => 0))), (q31, .inl (cA34, 6, .inl (fun _ => 0))), (q35, .inr (0, [.ref q36, .ref q37, .ref q38, .int 0])), (q36, .inl (cA39, 6, .inl (fun _ => 0))), (q37, .inl (cA40, 6, .inl (fun _ => 0))), (q38, .inl (cA41, 6, .inl (fun _ => 0))), (q42, .inr (1, [.int 0, .int 0])), (q43, .inr (5, [.ref q44, .ref q45, .ref q46, .ref q47, .int 0, .ref q48, .ref q49, .int 0])), (q44, .inl (cA50, 36, .inr (.inl (fun _ => 0)))), (q45, .inl (cA51, 36, .inr (.inl (fun _ => 0)))), (q46, .inl (cA52, 36, .inr (.inl (fun _ => 0)))), (q47, .inl (cA53, 6, .inl (fun _ => 0))), (q48, .inl (cA54, 6, .inl (fun _ => 0))), (q49, .inl (cA55, 6, .inl (fun _ => 0))), (q56, .inl (cA57, 6, .inl (fun _ => 0)))] := hD
  have hK : va_K D mm_K [(cA2, .object "PondRings$Sheet"), (cA5, .int), (cA8, .int), (cA11, .int), (cA14, .int), (cA19, .long), (cA20, .int), (cA25, .int), (cA26, .int), (cA27, .int), (cA32, .int), (cA33, .int), (cA34, .int), (cA39, .int), (cA40, .int), (cA41, .int), (cA50, .long), (cA51, .long), (cA52, .long), (cA53, .int), (cA54, .int), (cA55, .int), (cA57, .int)] s := hK
  refine va_putF (D := D) (ci := 6) (v := .ref q56) (ty := .array .int) (C := RX6) (T := TX6) (N := 11) hx hb htb mu_6 tyX6 tyX6_ok nmX6 hown hK hP hD hS 0 rfl rfl 8 (by decide) (htb _ wf_6_61) (fun _ h9 => h9) rfl hin rfl (by decide +kernel) rfl rfl (Nat.le_of_ble_eq_true rfl) di_6_126 (fun H locs hP hD hS => ?_)
  have hP : va_P D mm_K [(h0, .inr (6, [.ref q1, .ref q15, .ref q16, .ref q21, .ref q28, .ref q35, .ref q42, .ref q43, .ref q56, .int 0, .int 0])), (q1, .inl (cA2, 4, .inr (.inr (.inr (.inr (va_up (va_up (va_up (va_up (fun _ => none) 0 (some q3)) 1 (some q6)) 2 (some q9)) 3 (some q12))))))), (q3, .inr (4, [.ref q4, .int 0, .int 0, .int 0])), (q4, .inl (cA5, 60, .inl (fun _ => 0))), (q6, .inr (4, [.ref q7, .int 0, .int 0, .int 0])), (q7, .inl (cA8, 60, .inl (fun _ => 0))), (q9, .inr (4, [.ref q10, .int 0, .int 0, .int 0])), (q10, .inl (cA11, 60, .inl (fun _ => 0))), (q12, .inr (4, [.ref q13, .int 0, .int 0, .int 0])), (q13, .inl (cA14, 60, .inl (fun _ => 0))), (q15, .inr (3, [.int 0, .int 0, .long 0])), (q16, .inr (2, [.ref q17, .ref q18, .long 0, .long 0, .long 0, .int 0, .int 0, .long 0])), (q17, .inl (cA19, 1764, .inr (.inl (fun _ => 0)))), (q18, .inl (cA20, 42, .inl (fun _ => 0))), (q21, .inr (0, [.ref q22, .ref q23, .ref q24, .int 0])), (q22, .inl (cA25, 8, .inl (fun _ => 0))), (q23, .inl (cA26, 8, .inl (fun _ => 0))), (q24, .inl (cA27, 8, .inl (fun _ => 0))), (q28, .inr (0, [.ref q29, .ref q30, .ref q31, .int 0])), (q29, .inl (cA32, 6, .inl (fun _ => 0))), (q30, .inl (cA33, 6, .inl (fun _ => 0))), (q31, .inl (cA34, 6, .inl (fun _ => 0))), (q35, .inr (0, [.ref q36, .ref q37, .ref q38, .int 0])), (q36, .inl (cA39, 6, .inl (fun _ => 0))), (q37, .inl (cA40, 6, .inl (fun _ => 0))), (q38, .inl (cA41, 6, .inl (fun _ => 0))), (q42, .inr (1, [.int 0, .int 0])), (q43, .inr (5, [.ref q44, .ref q45, .ref q46, .ref q47, .int 0, .ref q48, .ref q49, .int 0])), (q44, .inl (cA50, 36, .inr (.inl (fun _ => 0)))), (q45, .inl (cA51, 36, .inr (.inl (fun _ => 0)))), (q46, .inl (cA52, 36, .inr (.inl (fun _ => 0)))), (q47, .inl (cA53, 6, .inl (fun _ => 0))), (q48, .inl (cA54, 6, .inl (fun _ => 0))), (q49, .inl (cA55, 6, .inl (fun _ => 0))), (q56, .inl (cA57, 6, .inl (fun _ => 0)))] H := hP
  have hD : va_D A [(h0, .inr (6, [.ref q1, .ref q15, .ref q16, .ref q21, .ref q28, .ref q35, .ref q42, .ref q43, .ref q56, .int 0, .int 0])), (q1, .inl (cA2, 4, .inr (.inr (.inr (.inr (va_up (va_up (va_up (va_up (fun _ => none) 0 (some q3)) 1 (some q6)) 2 (some q9)) 3 (some q12))))))), (q3, .inr (4, [.ref q4, .int 0, .int 0, .int 0])), (q4, .inl (cA5, 60, .inl (fun _ => 0))), (q6, .inr (4, [.ref q7, .int 0, .int 0, .int 0])), (q7, .inl (cA8, 60, .inl (fun _ => 0))), (q9, .inr (4, [.ref q10, .int 0, .int 0, .int 0])), (q10, .inl (cA11, 60, .inl (fun _ => 0))), (q12, .inr (4, [.ref q13, .int 0, .int 0, .int 0])), (q13, .inl (cA14, 60, .inl (fun _ => 0))), (q15, .inr (3, [.int 0, .int 0, .long 0])), (q16, .inr (2, [.ref q17, .ref q18, .long 0, .long 0, .long 0, .int 0, .int 0, .long 0])), (q17, .inl (cA19, 1764, .inr (.inl (fun _ => 0)))), (q18, .inl (cA20, 42, .inl (fun _ => 0))), (q21, .inr (0, [.ref q22, .ref q23, .ref q24, .int 0])), (q22, .inl (cA25, 8, .inl (fun _ => 0))), (q23, .inl (cA26, 8, .inl (fun _ => 0))), (q24, .inl (cA27, 8, .inl (fun _ => 0))), (q28, .inr (0, [.ref q29, .ref q30, .ref q31, .int 0])), (q29, .inl (cA32, 6, .inl (fun _ => 0))), (q30, .inl (cA33, 6, .inl (fun _ => 0))), (q31, .inl (cA34, 6, .inl (fun _ => 0))), (q35, .inr (0, [.ref q36, .ref q37, .ref q38, .int 0])), (q36, .inl (cA39, 6, .inl (fun _ => 0))), (q37, .inl (cA40, 6, .inl (fun _ => 0))), (q38, .inl (cA41, 6, .inl (fun _ => 0))), (q42, .inr (1, [.int 0, .int 0])), (q43, .inr (5, [.ref q44, .ref q45, .ref q46, .ref q47, .int 0, .ref q48, .ref q49, .int 0])), (q44, .inl (cA50, 36, .inr (.inl (fun _ => 0)))), (q45, .inl (cA51, 36, .inr (.inl (fun _ => 0)))), (q46, .inl (cA52, 36, .inr (.inl (fun _ => 0)))), (q47, .inl (cA53, 6, .inl (fun _ => 0))), (q48, .inl (cA54, 6, .inl (fun _ => 0))), (q49, .inl (cA55, 6, .inl (fun _ => 0))), (q56, .inl (cA57, 6, .inl (fun _ => 0)))] := hD
  refine lv_aload_n hx hb di_6_129 rfl (lv_at hl 1 rfl) ?_
  refine lv_iconst (v := 0) hx hb di_6_130 (by decide) ?_
  refine va_put (D := D) (ci := 6) (v := .int (0 : Int32)) (ty := .int) (C := RX6) (T := TX6) (N := 11) hx hb htb mu_6 tyX6 tyX6_ok nmX6 hown hK hP hD hS 0 rfl rfl 9 (by decide) (htb _ wf_6_65) (fun _ h9 => h9) rfl (by decide +kernel) rfl rfl (Nat.le_of_ble_eq_true rfl) di_6_131 (fun H locs hP hD hS => ?_)
  have hP : va_P D mm_K [(h0, .inr (6, [.ref q1, .ref q15, .ref q16, .ref q21, .ref q28, .ref q35, .ref q42, .ref q43, .ref q56, .int (0 : Int32), .int 0])), (q1, .inl (cA2, 4, .inr (.inr (.inr (.inr (va_up (va_up (va_up (va_up (fun _ => none) 0 (some q3)) 1 (some q6)) 2 (some q9)) 3 (some q12))))))), (q3, .inr (4, [.ref q4, .int 0, .int 0, .int 0])), (q4, .inl (cA5, 60, .inl (fun _ => 0))), (q6, .inr (4, [.ref q7, .int 0, .int 0, .int 0])), (q7, .inl (cA8, 60, .inl (fun _ => 0))), (q9, .inr (4, [.ref q10, .int 0, .int 0, .int 0])), (q10, .inl (cA11, 60, .inl (fun _ => 0))), (q12, .inr (4, [.ref q13, .int 0, .int 0, .int 0])), (q13, .inl (cA14, 60, .inl (fun _ => 0))), (q15, .inr (3, [.int 0, .int 0, .long 0])), (q16, .inr (2, [.ref q17, .ref q18, .long 0, .long 0, .long 0, .int 0, .int 0, .long 0])), (q17, .inl (cA19, 1764, .inr (.inl (fun _ => 0)))), (q18, .inl (cA20, 42, .inl (fun _ => 0))), (q21, .inr (0, [.ref q22, .ref q23, .ref q24, .int 0])), (q22, .inl (cA25, 8, .inl (fun _ => 0))), (q23, .inl (cA26, 8, .inl (fun _ => 0))), (q24, .inl (cA27, 8, .inl (fun _ => 0))), (q28, .inr (0, [.ref q29, .ref q30, .ref q31, .int 0])), (q29, .inl (cA32, 6, .inl (fun _ => 0))), (q30, .inl (cA33, 6, .inl (fun _ => 0))), (q31, .inl (cA34, 6, .inl (fun _ => 0))), (q35, .inr (0, [.ref q36, .ref q37, .ref q38, .int 0])), (q36, .inl (cA39, 6, .inl (fun _ => 0))), (q37, .inl (cA40, 6, .inl (fun _ => 0))), (q38, .inl (cA41, 6, .inl (fun _ => 0))), (q42, .inr (1, [.int 0, .int 0])), (q43, .inr (5, [.ref q44, .ref q45, .ref q46, .ref q47, .int 0, .ref q48, .ref q49, .int 0])), (q44, .inl (cA50, 36, .inr (.inl (fun _ => 0)))), (q45, .inl (cA51, 36, .inr (.inl (fun _ => 0)))), (q46, .inl (cA52, 36, .inr (.inl (fun _ => 0)))), (q47, .inl (cA53, 6, .inl (fun _ => 0))), (q48, .inl (cA54, 6, .inl (fun _ => 0))), (q49, .inl (cA55, 6, .inl (fun _ => 0))), (q56, .inl (cA57, 6, .inl (fun _ => 0)))] H := hP
  have hD : va_D A [(h0, .inr (6, [.ref q1, .ref q15, .ref q16, .ref q21, .ref q28, .ref q35, .ref q42, .ref q43, .ref q56, .int (0 : Int32), .int 0])), (q1, .inl (cA2, 4, .inr (.inr (.inr (.inr (va_up (va_up (va_up (va_up (fun _ => none) 0 (some q3)) 1 (some q6)) 2 (some q9)) 3 (some q12))))))), (q3, .inr (4, [.ref q4, .int 0, .int 0, .int 0])), (q4, .inl (cA5, 60, .inl (fun _ => 0))), (q6, .inr (4, [.ref q7, .int 0, .int 0, .int 0])), (q7, .inl (cA8, 60, .inl (fun _ => 0))), (q9, .inr (4, [.ref q10, .int 0, .int 0, .int 0])), (q10, .inl (cA11, 60, .inl (fun _ => 0))), (q12, .inr (4, [.ref q13, .int 0, .int 0, .int 0])), (q13, .inl (cA14, 60, .inl (fun _ => 0))), (q15, .inr (3, [.int 0, .int 0, .long 0])), (q16, .inr (2, [.ref q17, .ref q18, .long 0, .long 0, .long 0, .int 0, .int 0, .long 0])), (q17, .inl (cA19, 1764, .inr (.inl (fun _ => 0)))), (q18, .inl (cA20, 42, .inl (fun _ => 0))), (q21, .inr (0, [.ref q22, .ref q23, .ref q24, .int 0])), (q22, .inl (cA25, 8, .inl (fun _ => 0))), (q23, .inl (cA26, 8, .inl (fun _ => 0))), (q24, .inl (cA27, 8, .inl (fun _ => 0))), (q28, .inr (0, [.ref q29, .ref q30, .ref q31, .int 0])), (q29, .inl (cA32, 6, .inl (fun _ => 0))), (q30, .inl (cA33, 6, .inl (fun _ => 0))), (q31, .inl (cA34, 6, .inl (fun _ => 0))), (q35, .inr (0, [.ref q36, .ref q37, .ref q38, .int 0])), (q36, .inl (cA39, 6, .inl (fun _ => 0))), (q37, .inl (cA40, 6, .inl (fun _ => 0))), (q38, .inl (cA41, 6, .inl (fun _ => 0))), (q42, .inr (1, [.int 0, .int 0])), (q43, .inr (5, [.ref q44, .ref q45, .ref q46, .ref q47, .int 0, .ref q48, .ref q49, .int 0])), (q44, .inl (cA50, 36, .inr (.inl (fun _ => 0)))), (q45, .inl (cA51, 36, .inr (.inl (fun _ => 0)))), (q46, .inl (cA52, 36, .inr (.inl (fun _ => 0)))), (q47, .inl (cA53, 6, .inl (fun _ => 0))), (q48, .inl (cA54, 6, .inl (fun _ => 0))), (q49, .inl (cA55, 6, .inl (fun _ => 0))), (q56, .inl (cA57, 6, .inl (fun _ => 0)))] := hD
  refine lv_aload_n hx hb di_6_134 rfl (lv_at hl 1 rfl) ?_
  refine lv_iconst (v := 0) hx hb di_6_135 (by decide) ?_
  refine va_put (D := D) (ci := 6) (v := .int (0 : Int32)) (ty := .int) (C := RX6) (T := TX6) (N := 11) hx hb htb mu_6 tyX6 tyX6_ok nmX6 hown hK hP hD hS 0 rfl rfl 10 (by decide) (htb _ wf_6_69) (fun _ h9 => h9) rfl (by decide +kernel) rfl rfl (Nat.le_of_ble_eq_true rfl) di_6_136 (fun H locs hP hD hS => ?_)
  have hP : va_P D mm_K [(h0, .inr (6, [.ref q1, .ref q15, .ref q16, .ref q21, .ref q28, .ref q35, .ref q42, .ref q43, .ref q56, .int (0 : Int32), .int (0 : Int32)])), (q1, .inl (cA2, 4, .inr (.inr (.inr (.inr (va_up (va_up (va_up (va_up (fun _ => none) 0 (some q3)) 1 (some q6)) 2 (some q9)) 3 (some q12))))))), (q3, .inr (4, [.ref q4, .int 0, .int 0, .int 0])), (q4, .inl (cA5, 60, .inl (fun _ => 0))), (q6, .inr (4, [.ref q7, .int 0, .int 0, .int 0])), (q7, .inl (cA8, 60, .inl (fun _ => 0))), (q9, .inr (4, [.ref q10, .int 0, .int 0, .int 0])), (q10, .inl (cA11, 60, .inl (fun _ => 0))), (q12, .inr (4, [.ref q13, .int 0, .int 0, .int 0])), (q13, .inl (cA14, 60, .inl (fun _ => 0))), (q15, .inr (3, [.int 0, .int 0, .long 0])), (q16, .inr (2, [.ref q17, .ref q18, .long 0, .long 0, .long 0, .int 0, .int 0, .long 0])), (q17, .inl (cA19, 1764, .inr (.inl (fun _ => 0)))), (q18, .inl (cA20, 42, .inl (fun _ => 0))), (q21, .inr (0, [.ref q22, .ref q23, .ref q24, .int 0])), (q22, .inl (cA25, 8, .inl (fun _ => 0))), (q23, .inl (cA26, 8, .inl (fun _ => 0))), (q24, .inl (cA27, 8, .inl (fun _ => 0))), (q28, .inr (0, [.ref q29, .ref q30, .ref q31, .int 0])), (q29, .inl (cA32, 6, .inl (fun _ => 0))), (q30, .inl (cA33, 6, .inl (fun _ => 0))), (q31, .inl (cA34, 6, .inl (fun _ => 0))), (q35, .inr (0, [.ref q36, .ref q37, .ref q38, .int 0])), (q36, .inl (cA39, 6, .inl (fun _ => 0))), (q37, .inl (cA40, 6, .inl (fun _ => 0))), (q38, .inl (cA41, 6, .inl (fun _ => 0))), (q42, .inr (1, [.int 0, .int 0])), (q43, .inr (5, [.ref q44, .ref q45, .ref q46, .ref q47, .int 0, .ref q48, .ref q49, .int 0])), (q44, .inl (cA50, 36, .inr (.inl (fun _ => 0)))), (q45, .inl (cA51, 36, .inr (.inl (fun _ => 0)))), (q46, .inl (cA52, 36, .inr (.inl (fun _ => 0)))), (q47, .inl (cA53, 6, .inl (fun _ => 0))), (q48, .inl (cA54, 6, .inl (fun _ => 0))), (q49, .inl (cA55, 6, .inl (fun _ => 0))), (q56, .inl (cA57, 6, .inl (fun _ => 0)))] H := hP
  have hD : va_D A [(h0, .inr (6, [.ref q1, .ref q15, .ref q16, .ref q21, .ref q28, .ref q35, .ref q42, .ref q43, .ref q56, .int (0 : Int32), .int (0 : Int32)])), (q1, .inl (cA2, 4, .inr (.inr (.inr (.inr (va_up (va_up (va_up (va_up (fun _ => none) 0 (some q3)) 1 (some q6)) 2 (some q9)) 3 (some q12))))))), (q3, .inr (4, [.ref q4, .int 0, .int 0, .int 0])), (q4, .inl (cA5, 60, .inl (fun _ => 0))), (q6, .inr (4, [.ref q7, .int 0, .int 0, .int 0])), (q7, .inl (cA8, 60, .inl (fun _ => 0))), (q9, .inr (4, [.ref q10, .int 0, .int 0, .int 0])), (q10, .inl (cA11, 60, .inl (fun _ => 0))), (q12, .inr (4, [.ref q13, .int 0, .int 0, .int 0])), (q13, .inl (cA14, 60, .inl (fun _ => 0))), (q15, .inr (3, [.int 0, .int 0, .long 0])), (q16, .inr (2, [.ref q17, .ref q18, .long 0, .long 0, .long 0, .int 0, .int 0, .long 0])), (q17, .inl (cA19, 1764, .inr (.inl (fun _ => 0)))), (q18, .inl (cA20, 42, .inl (fun _ => 0))), (q21, .inr (0, [.ref q22, .ref q23, .ref q24, .int 0])), (q22, .inl (cA25, 8, .inl (fun _ => 0))), (q23, .inl (cA26, 8, .inl (fun _ => 0))), (q24, .inl (cA27, 8, .inl (fun _ => 0))), (q28, .inr (0, [.ref q29, .ref q30, .ref q31, .int 0])), (q29, .inl (cA32, 6, .inl (fun _ => 0))), (q30, .inl (cA33, 6, .inl (fun _ => 0))), (q31, .inl (cA34, 6, .inl (fun _ => 0))), (q35, .inr (0, [.ref q36, .ref q37, .ref q38, .int 0])), (q36, .inl (cA39, 6, .inl (fun _ => 0))), (q37, .inl (cA40, 6, .inl (fun _ => 0))), (q38, .inl (cA41, 6, .inl (fun _ => 0))), (q42, .inr (1, [.int 0, .int 0])), (q43, .inr (5, [.ref q44, .ref q45, .ref q46, .ref q47, .int 0, .ref q48, .ref q49, .int 0])), (q44, .inl (cA50, 36, .inr (.inl (fun _ => 0)))), (q45, .inl (cA51, 36, .inr (.inl (fun _ => 0)))), (q46, .inl (cA52, 36, .inr (.inl (fun _ => 0)))), (q47, .inl (cA53, 6, .inl (fun _ => 0))), (q48, .inl (cA54, 6, .inl (fun _ => 0))), (q49, .inl (cA55, 6, .inl (fun _ => 0))), (q56, .inl (cA57, 6, .inl (fun _ => 0)))] := hD
  refine W.widen (k := 34) (n := 2291) (Nat.le_of_ble_eq_true rfl) (Nat.le_of_ble_eq_true rfl) ?_
  exact W.vret hx hb hr (fun t ht hW => ⟨⟨(), rfl, trivial, q1, q3, q4, q6, q7, q9, q10, q12, q13, q15, q16, q17, q18, q21, q22, q23, q24, q28, q29, q30, q31, q35, q36, q37, q38, q42, q43, q44, q45, q46, q47, q48, q49, q56, cA2, cA5, cA8, cA11, cA14, cA19, cA20, cA25, cA26, cA27, cA32, cA33, cA34, cA39, cA40, cA41, cA50, cA51, cA52, cA53, cA54, cA55, cA57, by rw [ht]; exact hP, va_K.moved hW.alike hK, hD⟩, hS.F ht⟩) hS.2.2 di_6_139
end
section
-- ===== end of PART A; then your names; then what follows =====
/-! THE CLAIM OUT OF ONE WALK OF THE LAW'S BODY. Your part is whole_start (and what it stands on); all else here is the same for every law, but numbers. -/
def R_law : String := "PondRingsLaw"
def lw_P (b : Addr) (xs : List Int32) (args : Array Value) (s : State) : Prop := args = #[.ref b] ∧ s.IntsAt b xs ∧ xs.length ≤ 3072 ∧ (Jvm.Cond.and given_1 narrow_1).before args s = true
def lw_Q (_ : Array Value) (s : State) (o : Outcome) (t : State) : Prop := o = .returned (some (.int 1)) ∧ Framed s o t [] 600000 7302250
def lw_Z (below : List Frame) (a : Array Value) (s : State) : State → Prop := fun t => ∃ o, t.status = .running ∧ Ended t below o ∧ lw_Q a s o t
/-- the law's own end, with 1 on the stack, nothing written that was there before, its room as the claim has it -/
theorem lw_ret {p : Program} {l : Launch} {e : Env} {s : State} {m : MethodId} {below : List Frame} {meth : Method} {c : Code} {b : Nat} (hx : p.tables.exec = Jvm.exec) (hb : c.code = code) (hr : meth.sig.returnType = ret) (hlocks : meth.locks = false) {pc : Nat} {H : Heap} {ls : Array Slot} (hdg : decode code pc = .ok (.ireturn, 1)) : W p l e room_1 s m #[Value.ref b] below meth c H [] 600000 7302250 (lw_Z below #[Value.ref b] s) (F0 m pc ls [.int 1]) := by
  intro T hT X
  obtain ⟨fs, hret, hrun, hended, hW, hframe⟩ := X.leave (v := some (.int 1)) (hlocks := hlocks) (fun h => by rw [hr] at h; cases h)
  have hmeth' : T.vm.method? m = some meth := X.method'
  refine ⟨T.setFrames fs, ?_, .returned (some (.int 1)), hrun, hended, rfl, ⟨_, rfl⟩, hW, hframe⟩
  jvm_step X.here [X.here.top, hx, hb, hdg, hmeth', hr, ret, narrow_b1]
  (try refine ⟨rfl, ?_⟩); (try refine ⟨rfl, ?_⟩)
  first | (intro acts; rw [hret _ acts rfl rfl rfl]) | rw [hret _ _ rfl rfl rfl]
  exact Steps.refl _
/-- what holds at the law's entry: the machine, the code, the tables' words (any of lw_tbl by 'hts w (by decide +kernel)'), the script of L ints xs at the cell b, what the Statement gives of the start (any of its parts by flat_of_before) -/
def lw_At (p : Program) (s : State) (m : MethodId) (meth : Method) (c : Code) (b L : Nat) (xs : Nat → Int32) : Prop :=
  p.tables.exec = Jvm.exec ∧ c.code = code ∧ meth.sig.returnType = ret ∧ c.maxLocals = 4 ∧ s.vm.findClass R_law = some m.cls ∧ (∀ w ∈ lw_tbl, w.before #[Value.ref b] s = true) ∧ va_X b L xs s s.heap ∧ b < s.heap.size ∧ meth.locks = false ∧ (Jvm.Cond.and given_1 narrow_1).before #[Value.ref b] s = true

theorem ln_1 : Cond.methodLinkNest RX6 17 yX4_init "PondRings" ∈ lw_tbl := (List.mem_append_right _ (List.mem_append_left _ (List.mem_of_getElem? (i := 25) (by decide +kernel))))
theorem ln_2 : Cond.methodLinkNest RX6 20 yX3_init "PondRings" ∈ lw_tbl := (List.mem_append_right _ (List.mem_append_left _ (List.mem_of_getElem? (i := 49) (by decide +kernel))))
theorem ln_3 : Cond.methodLinkNest RX6 27 yX2_init "PondRings" ∈ lw_tbl := (List.mem_append_right _ (List.mem_append_left _ (List.mem_of_getElem? (i := 68) (by decide +kernel))))
theorem ln_4 : Cond.methodLinkNest RX6 49 yX1_init "PondRings" ∈ lw_tbl := (List.mem_append_right _ (List.mem_append_left _ (List.mem_of_getElem? (i := 129) (by decide +kernel))))
theorem ln_5 : Cond.methodLinkNest RX6 56 yX5_init "PondRings" ∈ lw_tbl := (List.mem_append_right _ (List.mem_append_left _ (List.mem_of_getElem? (i := 144) (by decide +kernel))))
theorem ln_6 : Cond.arrayOver (.object "PondRings$Sheet") ∈ lw_tbl := (List.mem_append_right _ (List.mem_append_left _ (List.mem_of_getElem? (i := 23) (by decide +kernel))))
theorem ln_7 : Cond.methodLinkNest RX1 49 yX6_lowestBit "PondRings" ∈ lw_tbl := (List.mem_append_right _ (List.mem_append_right _ (List.mem_append_left _ (List.mem_of_getElem? (i := 119) (by decide +kernel)))))
theorem ln_8 : Cond.methodLinkNest RX5 65 yX6_lowestBit "PondRings" ∈ lw_tbl := (List.mem_append_right _ (List.mem_append_right _ (List.mem_append_left _ (List.mem_of_getElem? (i := 166) (by decide +kernel)))))
theorem ln_9 : Cond.fieldLinkNest RX0 25 "PondRings" "REACH" "[I" "PondRings" ∈ lw_tbl := (List.mem_append_right _ (List.mem_append_right _ (List.mem_append_left _ (List.mem_of_getElem? (i := 79) (by decide +kernel)))))
theorem ln_10 : Cond.laysStatic "PondRings" "REACH" "[I" ∈ lw_tbl := (List.mem_append_right _ (List.mem_append_right _ (List.mem_append_left _ (List.mem_of_getElem? (i := 80) (by decide +kernel)))))
theorem mm_TB_in {w : Cond} (h : w ∈ mm_TB) : w ∈ lw_tbl := (List.mem_filter.mp h).1
theorem ll_7 : Cond.classLink R_law 7 RX6 ∈ mm_TB := (mm_t1 (w := .classLink R_law 7 RX6) 14 (by decide +kernel) (by decide +kernel))
theorem ll_10 : Cond.classLink R_law 10 RX7 ∈ mm_TB := (mm_t3 (w := .classLink R_law 10 RX7) 132 (by decide +kernel) (by decide +kernel))
theorem lm_9 : Cond.methodLink R_law 9 yX6_init ∈ mm_TB := (mm_t1 (w := .methodLink R_law 9 yX6_init) 16 (by decide +kernel) (by decide +kernel))
theorem lm_12 : Cond.methodLink R_law 12 yX7_init ∈ mm_TB := (mm_t3 (w := .methodLink R_law 12 yX7_init) 134 (by decide +kernel) (by decide +kernel))
theorem dl_0 : decode code 0 = .ok (.new 7, 3) := by decide +kernel
theorem dl_3 : decode code 3 = .ok (.dup, 1) := by decide +kernel
theorem dl_4 : decode code 4 = .ok (.invokespecial 9, 3) := by decide +kernel
theorem dl_7 : decode code 7 = .ok (.astore_n 1, 1) := by decide +kernel
theorem dl_8 : decode code 8 = .ok (.new 10, 3) := by decide +kernel
theorem dl_11 : decode code 11 = .ok (.dup, 1) := by decide +kernel
theorem dl_12 : decode code 12 = .ok (.invokespecial 12, 3) := by decide +kernel
theorem dl_15 : decode code 15 = .ok (.astore_n 2, 1) := by decide +kernel
theorem dl_16 : decode code 16 = .ok (.iconst 0, 1) := by decide +kernel
theorem dl_17 : decode code 17 = .ok (.istore_n 3, 1) := by decide +kernel
theorem mc_N.warm {s U : State} (hW : s.WarmedH U.vm) (h : mc_N s) : mc_N U := ⟨h.1.warmM hW, h.2.1.warmM hW, h.2.2.1.warmM hW, h.2.2.2.1.warmM hW, h.2.2.2.2.1.warmM hW, va_AO.moved hW.alike h.2.2.2.2.2⟩
theorem mc_N.same {u U : State} (hvm : u.vm = U.vm) (h : mc_N u) : mc_N U := ⟨h.1.same rfl hvm, h.2.1.same rfl hvm, h.2.2.1.same rfl hvm, h.2.2.2.1.same rfl hvm, h.2.2.2.2.1.same rfl hvm, va_AO.moved (by rw [hvm]; exact Vm.Alike.refl U.vm) h.2.2.2.2.2⟩
/-- the numbers behind the constructors: all 0, but for the model's sorts -/
def s0 : mm_S := (fun _ => 0, fun _ => 0, fun q => bif Nat.beq q 38 then (upd (upd (upd (upd (fun _ => 0) 0 (-9 : Int32)) 1 (-9 : Int32)) 2 (-9 : Int32)) 3 (-9 : Int32)) else fun _ => 0, fun _ _ => 0)
/-- THE LAW'S LOOP IN THE SMALL MACHINE: what is left to be shown -/
def law_runs : Prop := ∀ (L : Nat) (xs : Nat → Int32), L ≤ 3072 → ∃ (n : Nat) (h : mm_H), mm_run n 1000 i_L_law (18, [some (.ref 1), some (.ref 2), some (.ref 37), some (.int 0)], [], HH (L, xs) s0) = some (some (.int 1), h)
theorem whole_loop (hruns : law_runs) {p : Program} {l : Launch} {e : Env} {s : State} {m : MethodId} {below : List Frame} {meth : Method} {c : Code} {b L cells slots : Nat} {xs : Nat → Int32} (hL : L ≤ 3072) (C0 : lw_At p s m meth c b L xs) (g : mm_G) (hg1 : g.2.2.2.2.1 = fun q : Nat => s.heap.size ≤ q) (hg2 : g.2.2.2.2.2.1 = L) (hg3 : g.2.2.2.2.2.2 = xs) (hx : p.tables.exec = Jvm.exec) (hb : c.code = code) (hr : meth.sig.returnType = ret) (hml : c.maxLocals = 4) (hown : s.vm.findClass R_law = some m.cls) (htb : ∀ w ∈ mm_TB, w.before #[Value.ref b] s = true) (hlocks : meth.locks = false)
    (hZ : mm_Z g s s.heap) {H : Heap} {locs : List Loc} {ls : Array Slot} (hI : mm_I g (HH (L, xs) s0) H) (hS : va_S g.2.2.2.2.1 s.heap H locs) (hl : lv_has ls 4 [(3, .int 0), (2, .ref (g.2.1 37)), (1, .ref (g.2.1 2)), (0, .ref (g.2.1 1))]) (hc : cells ≤ 600000) (hs : slots ≤ 7302250) : W p l e room_1 s m #[Value.ref b] below meth c H locs cells slots (lw_Z below #[Value.ref b] s) (F0 m 18 ls []) := by
  obtain ⟨n, h2, hrun⟩ := hruns L xs hL
  refine mm_sim l g n 1000 i_L_law _ _ hrun (p := p) (e := e) (R := room_1) (s := s) (m := m) (args := #[Value.ref b]) (below := below) (meth := meth) (c := c) (cells := cells) (slots := slots) (Q := lw_Z below #[Value.ref b] s)
    ⟨hx, hb, hown, htb, hZ, ⟨Nat.le_of_ble_eq_true rfl, Nat.le_of_ble_eq_true rfl⟩, ⟨hc, hs⟩⟩ ⟨Nat.le_of_ble_eq_true rfl, Nat.le_of_ble_eq_true rfl⟩ ?_ H locs ls hI hS hml.symm ?_
  · intro H2 locs2 ls2 pc i S hI2 hS2 hd2 hret
    rcases mm_ret_of hret with ⟨rfl, v, rfl, e2, h3⟩ | ⟨rfl, v, rfl, e2, h3⟩ | ⟨rfl, rfl, e2, h3⟩
    · cases e2
      refine va_forget (fun q hq => by have := hS2.2.2 q hq; rw [hg1] at this; exact this) ?_
      refine W.widen (k := 600000) (n := 7302250) hc hs ?_
      exact lw_ret hx hb hr hlocks hd2
    · cases e2
    · cases e2
  · rw [hml]
    refine mm_lp_sub hl ?_
    rintro ⟨j, y⟩ hq
    obtain ⟨u, h5, h6⟩ := mm_lp_mem.mp hq
    simp only at h5 h6
    subst h6
    match j, h5 with
    | 0, h5 => cases h5; simp [mm_v]
    | 1, h5 => cases h5; simp [mm_v]
    | 2, h5 => cases h5; simp [mm_v]
    | 3, h5 => cases h5; simp [mm_v]
    | j + 4, h5 => cases h5
def mm_wl (ad : Nat → Nat) (ca : Nat → ClassId) : Nat → mm_H → va_W
  | _, [] => []
  | k, c :: t => (ad k, mm_e ad ca k c) :: mm_wl ad ca (k + 1) t
theorem mm_wl_eq (ad : Nat → Nat) (ca : Nat → ClassId) : ∀ (h : mm_H) (k : Nat), (h.mapIdx fun i c => (ad (i + k), mm_e ad ca (i + k) c)) = mm_wl ad ca k h
  | [], _ => rfl
  | c :: t, k => by
    rw [List.mapIdx_cons, mm_wl, ← mm_wl_eq ad ca t (k + 1)]
    simp only [Nat.zero_add]
    congr 1
    have e : (fun (i : Nat) (c : mm_C) => (ad (i + 1 + k), mm_e ad ca (i + 1 + k) c)) = (fun (i : Nat) (c : mm_C) => (ad (i + (k + 1)), mm_e ad ca (i + (k + 1)) c)) := by
      funext i c
      rw [show i + 1 + k = i + (k + 1) by omega]
    rw [e]
theorem mm_w_s0 (ad : Nat → Nat) (ca : Nat → ClassId) (L : Nat) (xs : Nat → Int32) : mm_w ad ca (HH (L, xs) s0) = [(ad 2, .inr (6, [.ref (ad 3), .ref (ad 12), .ref (ad 13), .ref (ad 16), .ref (ad 20), .ref (ad 24), .ref (ad 28), .ref (ad 29), .ref (ad 36), .int (0 : Int32), .int (0 : Int32)])), (ad 3, .inl (ca 3, 4, .inr (.inr (.inr (.inr (fun j : Nat => (mm_she j).map ad)))))), (ad 4, .inr (4, [.ref (ad 8), .int 0, .int 0, .int 0])), (ad 5, .inr (4, [.ref (ad 9), .int 0, .int 0, .int 0])), (ad 6, .inr (4, [.ref (ad 10), .int 0, .int 0, .int 0])), (ad 7, .inr (4, [.ref (ad 11), .int 0, .int 0, .int 0])), (ad 8, .inl (ca 8, 60, .inl (fun _ => 0))), (ad 9, .inl (ca 9, 60, .inl (fun _ => 0))), (ad 10, .inl (ca 10, 60, .inl (fun _ => 0))), (ad 11, .inl (ca 11, 60, .inl (fun _ => 0))), (ad 12, .inr (3, [.int 0, .int 0, .long 0])), (ad 13, .inr (2, [.ref (ad 14), .ref (ad 15), .long 0, .long 0, .long 0, .int 0, .int 0, .long 0])), (ad 14, .inl (ca 14, 1764, .inr (.inl (fun _ => 0)))), (ad 15, .inl (ca 15, 42, .inl (fun _ => 0))), (ad 16, .inr (0, [.ref (ad 17), .ref (ad 18), .ref (ad 19), .int 0])), (ad 17, .inl (ca 17, 8, .inl (fun _ => 0))), (ad 18, .inl (ca 18, 8, .inl (fun _ => 0))), (ad 19, .inl (ca 19, 8, .inl (fun _ => 0))), (ad 20, .inr (0, [.ref (ad 21), .ref (ad 22), .ref (ad 23), .int 0])), (ad 21, .inl (ca 21, 6, .inl (fun _ => 0))), (ad 22, .inl (ca 22, 6, .inl (fun _ => 0))), (ad 23, .inl (ca 23, 6, .inl (fun _ => 0))), (ad 24, .inr (0, [.ref (ad 25), .ref (ad 26), .ref (ad 27), .int 0])), (ad 25, .inl (ca 25, 6, .inl (fun _ => 0))), (ad 26, .inl (ca 26, 6, .inl (fun _ => 0))), (ad 27, .inl (ca 27, 6, .inl (fun _ => 0))), (ad 28, .inr (1, [.int 0, .int 0])), (ad 29, .inr (5, [.ref (ad 30), .ref (ad 31), .ref (ad 32), .ref (ad 33), .int 0, .ref (ad 34), .ref (ad 35), .int 0])), (ad 30, .inl (ca 30, 36, .inr (.inl (fun _ => 0)))), (ad 31, .inl (ca 31, 36, .inr (.inl (fun _ => 0)))), (ad 32, .inl (ca 32, 36, .inr (.inl (fun _ => 0)))), (ad 33, .inl (ca 33, 6, .inl (fun _ => 0))), (ad 34, .inl (ca 34, 6, .inl (fun _ => 0))), (ad 35, .inl (ca 35, 6, .inl (fun _ => 0))), (ad 36, .inl (ca 36, 6, .inl (fun _ => 0))), (ad 37, .inr (7, [.int 0, .int 0, .ref (ad 38), .ref (ad 39), .ref (ad 40), .int 0, .int 0, .ref (ad 41), .ref (ad 42), .int 0, .int 0, .int 0, .ref (ad 43), .int 0, .ref (ad 44), .ref (ad 45), .ref (ad 46), .int 0, .int 0, .int 0, .int 0, .ref (ad 47), .ref (ad 48), .ref (ad 49), .ref (ad 50), .int 0, .ref (ad 51), .ref (ad 52)])), (ad 38, .inl (ca 38, 4, .inl (upd (upd (upd (upd (fun _ => 0) 0 (-9 : Int32)) 1 (-9 : Int32)) 2 (-9 : Int32)) 3 (-9 : Int32)))), (ad 39, .inl (ca 39, 4, .inl (fun _ => 0))), (ad 40, .inl (ca 40, 240, .inl (fun _ => 0))), (ad 41, .inl (ca 41, 42, .inl (fun _ => 0))), (ad 42, .inl (ca 42, 1764, .inl (fun _ => 0))), (ad 43, .inl (ca 43, 42, .inl (fun _ => 0))), (ad 44, .inl (ca 44, 8, .inl (fun _ => 0))), (ad 45, .inl (ca 45, 8, .inl (fun _ => 0))), (ad 46, .inl (ca 46, 8, .inl (fun _ => 0))), (ad 47, .inl (ca 47, 6, .inl (fun _ => 0))), (ad 48, .inl (ca 48, 6, .inl (fun _ => 0))), (ad 49, .inl (ca 49, 3636, .inl (fun _ => 0))), (ad 50, .inl (ca 50, 6, .inl (fun _ => 0))), (ad 51, .inl (ca 51, 6, .inl (fun _ => 0))), (ad 52, .inl (ca 52, 6, .inl (fun _ => 0)))] := by
  unfold mm_w
  rw [mm_wl_eq]
  rfl
end
section
set_option maxHeartbeats 4000000 in
set_option maxRecDepth 100000 in
/-- from the entry, if the small machine's law returns 1 -/
theorem whole_open (hruns : law_runs) {p : Program} {e : Env} {s : State} {m : MethodId} {below : List Frame} {meth : Method} {c : Code} (l : Launch) {b L : Nat} {xs : Nat → Int32} (hL : L ≤ 3072) (C0 : lw_At p s m meth c b L xs) : W p l e room_1 s m #[Value.ref b] below meth c s.heap [] 0 0 (lw_Z below #[Value.ref b] s) (entryFrame m ([Value.ref b] : List Value).toArray 4) := by
  obtain ⟨hx, hb, hr, hml, hown, hts, hX, hbl, hlocks, hgv⟩ := id C0
  have htb : ∀ w ∈ mm_TB, w.before #[Value.ref b] s = true := fun w hw => hts w (mm_TB_in hw)
  have hA : ∀ q : Nat, s.heap.size ≤ q → (fun q : Nat => s.heap.size ≤ q) q := fun _ h => h
  have hbA : ¬ (fun q : Nat => s.heap.size ≤ q) b := Nat.not_le.mpr hbl
  have hNs : mc_N s := ⟨va_Nw.of rfl (hts _ ln_1), va_Nw.of rfl (hts _ ln_2), va_Nw.of rfl (hts _ ln_3), va_Nw.of rfl (hts _ ln_4), va_Nw.of rfl (hts _ ln_5), va_AO.of (hts _ ln_6)⟩
  have hn7 := va_Nw.of rfl (hts _ ln_7)
  have hn8 := va_Nw.of rfl (hts _ ln_8)
  have hn9 := va_Nw.of rfl (hts _ ln_9)
  have hfl := flat_of_before _ hgv
  have hnA : ∀ a : Nat, a < s.heap.size → ¬ (fun q : Nat => s.heap.size ≤ q) a := fun a h => Nat.not_le.mpr h
  obtain ⟨tr, htr, hTr⟩ := va_Tof (args := #[Value.ref b]) (s := s) (tm := .static "PondRings" "REACH" "[I") (ty := .int) (N := 3) (f := fun j => .int (mm_reach j)) (A := fun q : Nat => s.heap.size ≤ q) (by decide) (hfl (.arrayOf (.static "PondRings" "REACH" "[I") .int) (by decide +kernel)) (va_eqt (hfl (.eq (.length (.static "PondRings" "REACH" "[I")) (.int 3)) (by decide +kernel))) (fun j hj => by
    match j, hj with
    | 0, _ => exact va_eqt (hfl (.eq (.elem (.static "PondRings" "REACH" "[I") (.int 0)) (.int 99)) (by decide +kernel))
    | 1, _ => exact va_eqt (hfl (.eq (.elem (.static "PondRings" "REACH" "[I") (.int 1)) (.int 3)) (by decide +kernel))
    | 2, _ => exact va_eqt (hfl (.eq (.elem (.static "PondRings" "REACH" "[I") (.int 2)) (.int 1)) (by decide +kernel))
    | k + 3, hk => exact absurd hk (by omega)) hnA
  have hZr := va_Zref (A := fun q : Nat => s.heap.size ≤ q) (hts _ ln_10) (htb _ wc_ini_6) htr hnA
  obtain ⟨c0, iS0, hKn0⟩ := u_known (C := RX0) (T := TX0) (N := 4) (n := 4) htb mu_0 (htb _ wc_able_0)
  obtain ⟨c1, iS1, hKn1⟩ := u_known (C := RX1) (T := TX1) (N := 2) (n := 2) htb mu_1 (htb _ wc_able_1)
  obtain ⟨c2, iS2, hKn2⟩ := u_known (C := RX2) (T := TX2) (N := 8) (n := 8) htb mu_2 (htb _ wc_able_2)
  obtain ⟨c3, iS3, hKn3⟩ := u_known (C := RX3) (T := TX3) (N := 3) (n := 3) htb mu_3 (htb _ wc_able_3)
  obtain ⟨c4, iS4, hKn4⟩ := u_known (C := RX4) (T := TX4) (N := 4) (n := 4) htb mu_4 (htb _ wc_able_4)
  obtain ⟨c5, iS5, hKn5⟩ := u_known (C := RX5) (T := TX5) (N := 8) (n := 8) htb mu_5 (htb _ wc_able_5)
  obtain ⟨c6, iS6, hKn6⟩ := u_known (C := RX6) (T := TX6) (N := 11) (n := 11) htb mu_6 (htb _ wc_able_6)
  obtain ⟨c7, iS7, hKn7⟩ := u_known (C := RX7) (T := TX7) (N := 28) (n := 28) htb mu_7 (htb _ wc_able_7)
  obtain ⟨D, hKc⟩ : ∃ D : va_G, ∀ (k : Nat) (q : vw_C), mm_K[k]? = some q → u_Kn s q.1 q.2.1 q.2.2 (D.1 k) (D.2 k) := by
    refine ⟨(fun k => match k with | 0 => c0 | 1 => c1 | 2 => c2 | 3 => c3 | 4 => c4 | 5 => c5 | 6 => c6 | _ => c7, fun k => match k with | 0 => iS0 | 1 => iS1 | 2 => iS2 | 3 => iS3 | 4 => iS4 | 5 => iS5 | 6 => iS6 | _ => iS7), ?_⟩
    intro k q hq
    match k, hq with
    | 0, hq => cases hq; exact hKn0
    | 1, hq => cases hq; exact hKn1
    | 2, hq => cases hq; exact hKn2
    | 3, hq => cases hq; exact hKn3
    | 4, hq => cases hq; exact hKn4
    | 5, hq => cases hq; exact hKn5
    | 6, hq => cases hq; exact hKn6
    | 7, hq => cases hq; exact hKn7
    | k + 8, hq => simp [mm_K] at hq
  have hS : va_S (fun q : Nat => s.heap.size ≤ q) s.heap s.heap [] := va_S.rf
  have hK : va_K D mm_K [] s := ⟨hKc, fun k q h => by simp at h⟩
  have hP : va_P D mm_K [] s.heap := fun k q h => by simp at h
  have hD : va_D (fun q : Nat => s.heap.size ≤ q) [] := ⟨fun i j p q h => by simp at h, fun k q h => by simp at h⟩
  have hl := lv_entry ([.ref b]) (n := 4) (Nat.le_of_ble_eq_true rfl)
  rw [lg_entry_eq]
  generalize (lg_sl ([.ref b]) ++ List.replicate (4 - (lg_sl ([.ref b])).length) Slot.unset).toArray = ls at hl ⊢
  have hl : lv_has ls 4 [(0, .ref b)] := hl
  refine va_new (ci := 6) (fs := [.null, .null, .null, .null, .null, .null, .null, .null, .null, .int 0, .int 0]) (C := RX6) (T := TX6) (N := 11) hx hb htb mu_6 tyX6 tyX6_ok hown (htb _ ll_7) (htb _ wc_able_6) (htb _ wc_ini_6) hK hP hD hS hA rfl md_6 (Nat.le_of_ble_eq_true rfl) (Nat.le_of_ble_eq_true rfl) dl_0 (fun qx H hP hD hS => ?_)
  have hP : va_P D mm_K [(qx, .inr (6, [.null, .null, .null, .null, .null, .null, .null, .null, .null, .int 0, .int 0]))] H := hP
  have hD : va_D (fun q : Nat => s.heap.size ≤ q) [(qx, .inr (6, [.null, .null, .null, .null, .null, .null, .null, .null, .null, .int 0, .int 0]))] := hD
  refine lv_dup hx hb dl_3 rfl ?_
  have hPc := hP.sub (ws' := [(qx, .inr (6, [.null, .null, .null, .null, .null, .null, .null, .null, .null, .int 0, .int 0]))]) [0] rfl
  have hDc := hD.sub (ws' := [(qx, .inr (6, [.null, .null, .null, .null, .null, .null, .null, .null, .null, .int 0, .int 0]))]) [0] (by decide) rfl
  have hKc := hK.sub (tys' := []) [] rfl
  have hFc := va_free (wc := [(qx, .inr (6, [.null, .null, .null, .null, .null, .null, .null, .null, .null, .int 0, .int 0]))]) hD hS hA [0] rfl
  refine va_callv (va_runI (As := []) (rest := [.ref qx]) ⟨hx, hb, hml, hown, htb⟩ (c_X6 l D qx H.size) (cwI 0 htb (wg wc_code_6) rfl rfl rfl (htb _ wc_ini_6) (htb _ lm_9) (htb _ wc_inst_6) rfl ⟨by decide +kernel, by decide +kernel, by decide +kernel⟩ ⟨Nat.le_of_ble_eq_true rfl, Nat.le_of_ble_eq_true rfl⟩) ⟨fun a U g mk q => by obtain ⟨q0, q1, qP, qK, qN, qD⟩ := q; exact ⟨q0, q1, qP, va_K.moved (u := U) (U := U.calling g mk a) (Vm.Alike.refl U.vm) qK, mc_N.same rfl qN, qD⟩, fun U hU hW => ⟨rfl, by rw [hU], by rw [hU]; exact hPc, va_K.moved hW.alike hKc, hNs.warm hW, hDc.weaken (fun _ _ _ _ => trivial)⟩⟩ rfl rfl hl.1 rfl (lv_room (Nat.le_of_ble_eq_true rfl)) dl_4 ⟨Nat.le_of_ble_eq_true rfl, Nat.le_of_ble_eq_true rfl⟩) hS (fun q _ h => hFc q h) hFc (fun u t H1 locs ht hvm hw hB hz1 hk1 hS => ?_)
  obtain ⟨xq1, xq3, xq4, xq6, xq7, xq9, xq10, xq12, xq13, xq15, xq16, xq17, xq18, xq21, xq22, xq23, xq24, xq28, xq29, xq30, xq31, xq35, xq36, xq37, xq38, xq42, xq43, xq44, xq45, xq46, xq47, xq48, xq49, xq56, xcA2, xcA5, xcA8, xcA11, xcA14, xcA19, xcA20, xcA25, xcA26, xcA27, xcA32, xcA33, xcA34, xcA39, xcA40, xcA41, xcA50, xcA51, xcA52, xcA53, xcA54, xcA55, xcA57, hP1, hK1, hD1⟩ := hB
  rw [ht] at hP1
  have hK1 := va_K.moved hvm.symm hK1
  obtain ⟨hP, hD⟩ := va_join (wr := []) (w1 := [(qx, .inr (6, [.ref xq1, .ref xq15, .ref xq16, .ref xq21, .ref xq28, .ref xq35, .ref xq42, .ref xq43, .ref xq56, .int (0 : Int32), .int (0 : Int32)])), (xq1, .inl (xcA2, 4, .inr (.inr (.inr (.inr (va_up (va_up (va_up (va_up (fun _ => none) 0 (some xq3)) 1 (some xq6)) 2 (some xq9)) 3 (some xq12))))))), (xq3, .inr (4, [.ref xq4, .int 0, .int 0, .int 0])), (xq4, .inl (xcA5, 60, .inl (fun _ => 0))), (xq6, .inr (4, [.ref xq7, .int 0, .int 0, .int 0])), (xq7, .inl (xcA8, 60, .inl (fun _ => 0))), (xq9, .inr (4, [.ref xq10, .int 0, .int 0, .int 0])), (xq10, .inl (xcA11, 60, .inl (fun _ => 0))), (xq12, .inr (4, [.ref xq13, .int 0, .int 0, .int 0])), (xq13, .inl (xcA14, 60, .inl (fun _ => 0))), (xq15, .inr (3, [.int 0, .int 0, .long 0])), (xq16, .inr (2, [.ref xq17, .ref xq18, .long 0, .long 0, .long 0, .int 0, .int 0, .long 0])), (xq17, .inl (xcA19, 1764, .inr (.inl (fun _ => 0)))), (xq18, .inl (xcA20, 42, .inl (fun _ => 0))), (xq21, .inr (0, [.ref xq22, .ref xq23, .ref xq24, .int 0])), (xq22, .inl (xcA25, 8, .inl (fun _ => 0))), (xq23, .inl (xcA26, 8, .inl (fun _ => 0))), (xq24, .inl (xcA27, 8, .inl (fun _ => 0))), (xq28, .inr (0, [.ref xq29, .ref xq30, .ref xq31, .int 0])), (xq29, .inl (xcA32, 6, .inl (fun _ => 0))), (xq30, .inl (xcA33, 6, .inl (fun _ => 0))), (xq31, .inl (xcA34, 6, .inl (fun _ => 0))), (xq35, .inr (0, [.ref xq36, .ref xq37, .ref xq38, .int 0])), (xq36, .inl (xcA39, 6, .inl (fun _ => 0))), (xq37, .inl (xcA40, 6, .inl (fun _ => 0))), (xq38, .inl (xcA41, 6, .inl (fun _ => 0))), (xq42, .inr (1, [.int 0, .int 0])), (xq43, .inr (5, [.ref xq44, .ref xq45, .ref xq46, .ref xq47, .int 0, .ref xq48, .ref xq49, .int 0])), (xq44, .inl (xcA50, 36, .inr (.inl (fun _ => 0)))), (xq45, .inl (xcA51, 36, .inr (.inl (fun _ => 0)))), (xq46, .inl (xcA52, 36, .inr (.inl (fun _ => 0)))), (xq47, .inl (xcA53, 6, .inl (fun _ => 0))), (xq48, .inl (xcA54, 6, .inl (fun _ => 0))), (xq49, .inl (xcA55, 6, .inl (fun _ => 0))), (xq56, .inl (xcA57, 6, .inl (fun _ => 0)))]) hP hD [0] [] rfl rfl (by decide) (by decide) hk1 hFc hP1 hD1
  have hK := (hK.sub (tys' := []) [] rfl).app hK1
  generalize H1 = H at hP hS ⊢
  have hP : va_P D mm_K [(qx, .inr (6, [.ref xq1, .ref xq15, .ref xq16, .ref xq21, .ref xq28, .ref xq35, .ref xq42, .ref xq43, .ref xq56, .int (0 : Int32), .int (0 : Int32)])), (xq1, .inl (xcA2, 4, .inr (.inr (.inr (.inr (va_up (va_up (va_up (va_up (fun _ => none) 0 (some xq3)) 1 (some xq6)) 2 (some xq9)) 3 (some xq12))))))), (xq3, .inr (4, [.ref xq4, .int 0, .int 0, .int 0])), (xq4, .inl (xcA5, 60, .inl (fun _ => 0))), (xq6, .inr (4, [.ref xq7, .int 0, .int 0, .int 0])), (xq7, .inl (xcA8, 60, .inl (fun _ => 0))), (xq9, .inr (4, [.ref xq10, .int 0, .int 0, .int 0])), (xq10, .inl (xcA11, 60, .inl (fun _ => 0))), (xq12, .inr (4, [.ref xq13, .int 0, .int 0, .int 0])), (xq13, .inl (xcA14, 60, .inl (fun _ => 0))), (xq15, .inr (3, [.int 0, .int 0, .long 0])), (xq16, .inr (2, [.ref xq17, .ref xq18, .long 0, .long 0, .long 0, .int 0, .int 0, .long 0])), (xq17, .inl (xcA19, 1764, .inr (.inl (fun _ => 0)))), (xq18, .inl (xcA20, 42, .inl (fun _ => 0))), (xq21, .inr (0, [.ref xq22, .ref xq23, .ref xq24, .int 0])), (xq22, .inl (xcA25, 8, .inl (fun _ => 0))), (xq23, .inl (xcA26, 8, .inl (fun _ => 0))), (xq24, .inl (xcA27, 8, .inl (fun _ => 0))), (xq28, .inr (0, [.ref xq29, .ref xq30, .ref xq31, .int 0])), (xq29, .inl (xcA32, 6, .inl (fun _ => 0))), (xq30, .inl (xcA33, 6, .inl (fun _ => 0))), (xq31, .inl (xcA34, 6, .inl (fun _ => 0))), (xq35, .inr (0, [.ref xq36, .ref xq37, .ref xq38, .int 0])), (xq36, .inl (xcA39, 6, .inl (fun _ => 0))), (xq37, .inl (xcA40, 6, .inl (fun _ => 0))), (xq38, .inl (xcA41, 6, .inl (fun _ => 0))), (xq42, .inr (1, [.int 0, .int 0])), (xq43, .inr (5, [.ref xq44, .ref xq45, .ref xq46, .ref xq47, .int 0, .ref xq48, .ref xq49, .int 0])), (xq44, .inl (xcA50, 36, .inr (.inl (fun _ => 0)))), (xq45, .inl (xcA51, 36, .inr (.inl (fun _ => 0)))), (xq46, .inl (xcA52, 36, .inr (.inl (fun _ => 0)))), (xq47, .inl (xcA53, 6, .inl (fun _ => 0))), (xq48, .inl (xcA54, 6, .inl (fun _ => 0))), (xq49, .inl (xcA55, 6, .inl (fun _ => 0))), (xq56, .inl (xcA57, 6, .inl (fun _ => 0)))] H := hP
  have hD : va_D (fun q : Nat => s.heap.size ≤ q) [(qx, .inr (6, [.ref xq1, .ref xq15, .ref xq16, .ref xq21, .ref xq28, .ref xq35, .ref xq42, .ref xq43, .ref xq56, .int (0 : Int32), .int (0 : Int32)])), (xq1, .inl (xcA2, 4, .inr (.inr (.inr (.inr (va_up (va_up (va_up (va_up (fun _ => none) 0 (some xq3)) 1 (some xq6)) 2 (some xq9)) 3 (some xq12))))))), (xq3, .inr (4, [.ref xq4, .int 0, .int 0, .int 0])), (xq4, .inl (xcA5, 60, .inl (fun _ => 0))), (xq6, .inr (4, [.ref xq7, .int 0, .int 0, .int 0])), (xq7, .inl (xcA8, 60, .inl (fun _ => 0))), (xq9, .inr (4, [.ref xq10, .int 0, .int 0, .int 0])), (xq10, .inl (xcA11, 60, .inl (fun _ => 0))), (xq12, .inr (4, [.ref xq13, .int 0, .int 0, .int 0])), (xq13, .inl (xcA14, 60, .inl (fun _ => 0))), (xq15, .inr (3, [.int 0, .int 0, .long 0])), (xq16, .inr (2, [.ref xq17, .ref xq18, .long 0, .long 0, .long 0, .int 0, .int 0, .long 0])), (xq17, .inl (xcA19, 1764, .inr (.inl (fun _ => 0)))), (xq18, .inl (xcA20, 42, .inl (fun _ => 0))), (xq21, .inr (0, [.ref xq22, .ref xq23, .ref xq24, .int 0])), (xq22, .inl (xcA25, 8, .inl (fun _ => 0))), (xq23, .inl (xcA26, 8, .inl (fun _ => 0))), (xq24, .inl (xcA27, 8, .inl (fun _ => 0))), (xq28, .inr (0, [.ref xq29, .ref xq30, .ref xq31, .int 0])), (xq29, .inl (xcA32, 6, .inl (fun _ => 0))), (xq30, .inl (xcA33, 6, .inl (fun _ => 0))), (xq31, .inl (xcA34, 6, .inl (fun _ => 0))), (xq35, .inr (0, [.ref xq36, .ref xq37, .ref xq38, .int 0])), (xq36, .inl (xcA39, 6, .inl (fun _ => 0))), (xq37, .inl (xcA40, 6, .inl (fun _ => 0))), (xq38, .inl (xcA41, 6, .inl (fun _ => 0))), (xq42, .inr (1, [.int 0, .int 0])), (xq43, .inr (5, [.ref xq44, .ref xq45, .ref xq46, .ref xq47, .int 0, .ref xq48, .ref xq49, .int 0])), (xq44, .inl (xcA50, 36, .inr (.inl (fun _ => 0)))), (xq45, .inl (xcA51, 36, .inr (.inl (fun _ => 0)))), (xq46, .inl (xcA52, 36, .inr (.inl (fun _ => 0)))), (xq47, .inl (xcA53, 6, .inl (fun _ => 0))), (xq48, .inl (xcA54, 6, .inl (fun _ => 0))), (xq49, .inl (xcA55, 6, .inl (fun _ => 0))), (xq56, .inl (xcA57, 6, .inl (fun _ => 0)))] := hD
  have hK : va_K D mm_K [(xcA2, .object "PondRings$Sheet"), (xcA5, .int), (xcA8, .int), (xcA11, .int), (xcA14, .int), (xcA19, .long), (xcA20, .int), (xcA25, .int), (xcA26, .int), (xcA27, .int), (xcA32, .int), (xcA33, .int), (xcA34, .int), (xcA39, .int), (xcA40, .int), (xcA41, .int), (xcA50, .long), (xcA51, .long), (xcA52, .long), (xcA53, .int), (xcA54, .int), (xcA55, .int), (xcA57, .int)] s := hK
  refine lv_astore_n (lv' := [(1, .ref qx), (0, .ref b)]) hx hb dl_7 rfl hl (by decide) rfl (fun ls hl => ?_)
  refine va_new (ci := 7) (fs := [.int 0, .int 0, .null, .null, .null, .int 0, .int 0, .null, .null, .int 0, .int 0, .int 0, .null, .int 0, .null, .null, .null, .int 0, .int 0, .int 0, .int 0, .null, .null, .null, .null, .int 0, .null, .null]) (C := RX7) (T := TX7) (N := 28) hx hb htb mu_7 tyX7 tyX7_ok hown (htb _ ll_10) (htb _ wc_able_7) (htb _ wc_ini_7) hK hP hD hS hA rfl md_7 (Nat.le_of_ble_eq_true rfl) (Nat.le_of_ble_eq_true rfl) dl_8 (fun qm H hP hD hS => ?_)
  have hP : va_P D mm_K [(qx, .inr (6, [.ref xq1, .ref xq15, .ref xq16, .ref xq21, .ref xq28, .ref xq35, .ref xq42, .ref xq43, .ref xq56, .int (0 : Int32), .int (0 : Int32)])), (xq1, .inl (xcA2, 4, .inr (.inr (.inr (.inr (va_up (va_up (va_up (va_up (fun _ => none) 0 (some xq3)) 1 (some xq6)) 2 (some xq9)) 3 (some xq12))))))), (xq3, .inr (4, [.ref xq4, .int 0, .int 0, .int 0])), (xq4, .inl (xcA5, 60, .inl (fun _ => 0))), (xq6, .inr (4, [.ref xq7, .int 0, .int 0, .int 0])), (xq7, .inl (xcA8, 60, .inl (fun _ => 0))), (xq9, .inr (4, [.ref xq10, .int 0, .int 0, .int 0])), (xq10, .inl (xcA11, 60, .inl (fun _ => 0))), (xq12, .inr (4, [.ref xq13, .int 0, .int 0, .int 0])), (xq13, .inl (xcA14, 60, .inl (fun _ => 0))), (xq15, .inr (3, [.int 0, .int 0, .long 0])), (xq16, .inr (2, [.ref xq17, .ref xq18, .long 0, .long 0, .long 0, .int 0, .int 0, .long 0])), (xq17, .inl (xcA19, 1764, .inr (.inl (fun _ => 0)))), (xq18, .inl (xcA20, 42, .inl (fun _ => 0))), (xq21, .inr (0, [.ref xq22, .ref xq23, .ref xq24, .int 0])), (xq22, .inl (xcA25, 8, .inl (fun _ => 0))), (xq23, .inl (xcA26, 8, .inl (fun _ => 0))), (xq24, .inl (xcA27, 8, .inl (fun _ => 0))), (xq28, .inr (0, [.ref xq29, .ref xq30, .ref xq31, .int 0])), (xq29, .inl (xcA32, 6, .inl (fun _ => 0))), (xq30, .inl (xcA33, 6, .inl (fun _ => 0))), (xq31, .inl (xcA34, 6, .inl (fun _ => 0))), (xq35, .inr (0, [.ref xq36, .ref xq37, .ref xq38, .int 0])), (xq36, .inl (xcA39, 6, .inl (fun _ => 0))), (xq37, .inl (xcA40, 6, .inl (fun _ => 0))), (xq38, .inl (xcA41, 6, .inl (fun _ => 0))), (xq42, .inr (1, [.int 0, .int 0])), (xq43, .inr (5, [.ref xq44, .ref xq45, .ref xq46, .ref xq47, .int 0, .ref xq48, .ref xq49, .int 0])), (xq44, .inl (xcA50, 36, .inr (.inl (fun _ => 0)))), (xq45, .inl (xcA51, 36, .inr (.inl (fun _ => 0)))), (xq46, .inl (xcA52, 36, .inr (.inl (fun _ => 0)))), (xq47, .inl (xcA53, 6, .inl (fun _ => 0))), (xq48, .inl (xcA54, 6, .inl (fun _ => 0))), (xq49, .inl (xcA55, 6, .inl (fun _ => 0))), (xq56, .inl (xcA57, 6, .inl (fun _ => 0))), (qm, .inr (7, [.int 0, .int 0, .null, .null, .null, .int 0, .int 0, .null, .null, .int 0, .int 0, .int 0, .null, .int 0, .null, .null, .null, .int 0, .int 0, .int 0, .int 0, .null, .null, .null, .null, .int 0, .null, .null]))] H := hP
  have hD : va_D (fun q : Nat => s.heap.size ≤ q) [(qx, .inr (6, [.ref xq1, .ref xq15, .ref xq16, .ref xq21, .ref xq28, .ref xq35, .ref xq42, .ref xq43, .ref xq56, .int (0 : Int32), .int (0 : Int32)])), (xq1, .inl (xcA2, 4, .inr (.inr (.inr (.inr (va_up (va_up (va_up (va_up (fun _ => none) 0 (some xq3)) 1 (some xq6)) 2 (some xq9)) 3 (some xq12))))))), (xq3, .inr (4, [.ref xq4, .int 0, .int 0, .int 0])), (xq4, .inl (xcA5, 60, .inl (fun _ => 0))), (xq6, .inr (4, [.ref xq7, .int 0, .int 0, .int 0])), (xq7, .inl (xcA8, 60, .inl (fun _ => 0))), (xq9, .inr (4, [.ref xq10, .int 0, .int 0, .int 0])), (xq10, .inl (xcA11, 60, .inl (fun _ => 0))), (xq12, .inr (4, [.ref xq13, .int 0, .int 0, .int 0])), (xq13, .inl (xcA14, 60, .inl (fun _ => 0))), (xq15, .inr (3, [.int 0, .int 0, .long 0])), (xq16, .inr (2, [.ref xq17, .ref xq18, .long 0, .long 0, .long 0, .int 0, .int 0, .long 0])), (xq17, .inl (xcA19, 1764, .inr (.inl (fun _ => 0)))), (xq18, .inl (xcA20, 42, .inl (fun _ => 0))), (xq21, .inr (0, [.ref xq22, .ref xq23, .ref xq24, .int 0])), (xq22, .inl (xcA25, 8, .inl (fun _ => 0))), (xq23, .inl (xcA26, 8, .inl (fun _ => 0))), (xq24, .inl (xcA27, 8, .inl (fun _ => 0))), (xq28, .inr (0, [.ref xq29, .ref xq30, .ref xq31, .int 0])), (xq29, .inl (xcA32, 6, .inl (fun _ => 0))), (xq30, .inl (xcA33, 6, .inl (fun _ => 0))), (xq31, .inl (xcA34, 6, .inl (fun _ => 0))), (xq35, .inr (0, [.ref xq36, .ref xq37, .ref xq38, .int 0])), (xq36, .inl (xcA39, 6, .inl (fun _ => 0))), (xq37, .inl (xcA40, 6, .inl (fun _ => 0))), (xq38, .inl (xcA41, 6, .inl (fun _ => 0))), (xq42, .inr (1, [.int 0, .int 0])), (xq43, .inr (5, [.ref xq44, .ref xq45, .ref xq46, .ref xq47, .int 0, .ref xq48, .ref xq49, .int 0])), (xq44, .inl (xcA50, 36, .inr (.inl (fun _ => 0)))), (xq45, .inl (xcA51, 36, .inr (.inl (fun _ => 0)))), (xq46, .inl (xcA52, 36, .inr (.inl (fun _ => 0)))), (xq47, .inl (xcA53, 6, .inl (fun _ => 0))), (xq48, .inl (xcA54, 6, .inl (fun _ => 0))), (xq49, .inl (xcA55, 6, .inl (fun _ => 0))), (xq56, .inl (xcA57, 6, .inl (fun _ => 0))), (qm, .inr (7, [.int 0, .int 0, .null, .null, .null, .int 0, .int 0, .null, .null, .int 0, .int 0, .int 0, .null, .int 0, .null, .null, .null, .int 0, .int 0, .int 0, .int 0, .null, .null, .null, .null, .int 0, .null, .null]))] := hD
  refine lv_dup hx hb dl_11 rfl ?_
  have hPc := hP.sub (ws' := [(qm, .inr (7, [.int 0, .int 0, .null, .null, .null, .int 0, .int 0, .null, .null, .int 0, .int 0, .int 0, .null, .int 0, .null, .null, .null, .int 0, .int 0, .int 0, .int 0, .null, .null, .null, .null, .int 0, .null, .null]))]) [35] rfl
  have hDc := hD.sub (ws' := [(qm, .inr (7, [.int 0, .int 0, .null, .null, .null, .int 0, .int 0, .null, .null, .int 0, .int 0, .int 0, .null, .int 0, .null, .null, .null, .int 0, .int 0, .int 0, .int 0, .null, .null, .null, .null, .int 0, .null, .null]))]) [35] (by decide) rfl
  have hKc := hK.sub (tys' := []) [] rfl
  have hFc := va_free (wc := [(qm, .inr (7, [.int 0, .int 0, .null, .null, .null, .int 0, .int 0, .null, .null, .int 0, .int 0, .int 0, .null, .int 0, .null, .null, .null, .int 0, .int 0, .int 0, .int 0, .null, .null, .null, .null, .int 0, .null, .null]))]) hD hS hA [35] rfl
  refine va_callv (va_runI (As := []) (rest := [.ref qm]) ⟨hx, hb, hml, hown, htb⟩ (c_X7 l D qm H.size) (cwI 0 htb (wg wc_code_7) rfl rfl rfl (htb _ wc_ini_7) (htb _ lm_12) (htb _ wc_inst_7) rfl ⟨by decide +kernel, by decide +kernel, by decide +kernel⟩ ⟨Nat.le_of_ble_eq_true rfl, Nat.le_of_ble_eq_true rfl⟩) ⟨fun a U g mk q => by obtain ⟨q0, q1, qP, qK, qD⟩ := q; exact ⟨q0, q1, qP, va_K.moved (u := U) (U := U.calling g mk a) (Vm.Alike.refl U.vm) qK, qD⟩, fun U hU hW => ⟨rfl, by rw [hU], by rw [hU]; exact hPc, va_K.moved hW.alike hKc, hDc.weaken (fun _ _ _ _ => trivial)⟩⟩ rfl rfl hl.1 rfl (lv_room (Nat.le_of_ble_eq_true rfl)) dl_12 ⟨Nat.le_of_ble_eq_true rfl, Nat.le_of_ble_eq_true rfl⟩) hS (fun q _ h => hFc q h) hFc (fun u t H1 locs ht hvm hw hB hz1 hk1 hS => ?_)
  obtain ⟨mq1, mq3, mq5, mq7, mq9, mq11, mq13, mq15, mq17, mq19, mq21, mq23, mq25, mq27, mq29, mcA2, mcA4, mcA6, mcA8, mcA10, mcA12, mcA14, mcA16, mcA18, mcA20, mcA22, mcA24, mcA26, mcA28, mcA30, hP1, hK1, hD1⟩ := hB
  rw [ht] at hP1
  have hK1 := va_K.moved hvm.symm hK1
  obtain ⟨hP, hD⟩ := va_join (wr := [(qx, .inr (6, [.ref xq1, .ref xq15, .ref xq16, .ref xq21, .ref xq28, .ref xq35, .ref xq42, .ref xq43, .ref xq56, .int (0 : Int32), .int (0 : Int32)])), (xq1, .inl (xcA2, 4, .inr (.inr (.inr (.inr (va_up (va_up (va_up (va_up (fun _ => none) 0 (some xq3)) 1 (some xq6)) 2 (some xq9)) 3 (some xq12))))))), (xq3, .inr (4, [.ref xq4, .int 0, .int 0, .int 0])), (xq4, .inl (xcA5, 60, .inl (fun _ => 0))), (xq6, .inr (4, [.ref xq7, .int 0, .int 0, .int 0])), (xq7, .inl (xcA8, 60, .inl (fun _ => 0))), (xq9, .inr (4, [.ref xq10, .int 0, .int 0, .int 0])), (xq10, .inl (xcA11, 60, .inl (fun _ => 0))), (xq12, .inr (4, [.ref xq13, .int 0, .int 0, .int 0])), (xq13, .inl (xcA14, 60, .inl (fun _ => 0))), (xq15, .inr (3, [.int 0, .int 0, .long 0])), (xq16, .inr (2, [.ref xq17, .ref xq18, .long 0, .long 0, .long 0, .int 0, .int 0, .long 0])), (xq17, .inl (xcA19, 1764, .inr (.inl (fun _ => 0)))), (xq18, .inl (xcA20, 42, .inl (fun _ => 0))), (xq21, .inr (0, [.ref xq22, .ref xq23, .ref xq24, .int 0])), (xq22, .inl (xcA25, 8, .inl (fun _ => 0))), (xq23, .inl (xcA26, 8, .inl (fun _ => 0))), (xq24, .inl (xcA27, 8, .inl (fun _ => 0))), (xq28, .inr (0, [.ref xq29, .ref xq30, .ref xq31, .int 0])), (xq29, .inl (xcA32, 6, .inl (fun _ => 0))), (xq30, .inl (xcA33, 6, .inl (fun _ => 0))), (xq31, .inl (xcA34, 6, .inl (fun _ => 0))), (xq35, .inr (0, [.ref xq36, .ref xq37, .ref xq38, .int 0])), (xq36, .inl (xcA39, 6, .inl (fun _ => 0))), (xq37, .inl (xcA40, 6, .inl (fun _ => 0))), (xq38, .inl (xcA41, 6, .inl (fun _ => 0))), (xq42, .inr (1, [.int 0, .int 0])), (xq43, .inr (5, [.ref xq44, .ref xq45, .ref xq46, .ref xq47, .int 0, .ref xq48, .ref xq49, .int 0])), (xq44, .inl (xcA50, 36, .inr (.inl (fun _ => 0)))), (xq45, .inl (xcA51, 36, .inr (.inl (fun _ => 0)))), (xq46, .inl (xcA52, 36, .inr (.inl (fun _ => 0)))), (xq47, .inl (xcA53, 6, .inl (fun _ => 0))), (xq48, .inl (xcA54, 6, .inl (fun _ => 0))), (xq49, .inl (xcA55, 6, .inl (fun _ => 0))), (xq56, .inl (xcA57, 6, .inl (fun _ => 0)))]) (w1 := [(qm, .inr (7, [.int 0, .int 0, .ref mq1, .ref mq3, .ref mq5, .int 0, .int 0, .ref mq7, .ref mq9, .int 0, .int 0, .int 0, .ref mq11, .int 0, .ref mq13, .ref mq15, .ref mq17, .int 0, .int 0, .int 0, .int 0, .ref mq19, .ref mq21, .ref mq23, .ref mq25, .int 0, .ref mq27, .ref mq29])), (mq1, .inl (mcA2, 4, .inl (upd (upd (upd (upd (fun _ => 0) 0 (-9 : Int32)) 1 (-9 : Int32)) 2 (-9 : Int32)) 3 (-9 : Int32)))), (mq3, .inl (mcA4, 4, .inl (fun _ => 0))), (mq5, .inl (mcA6, 240, .inl (fun _ => 0))), (mq7, .inl (mcA8, 42, .inl (fun _ => 0))), (mq9, .inl (mcA10, 1764, .inl (fun _ => 0))), (mq11, .inl (mcA12, 42, .inl (fun _ => 0))), (mq13, .inl (mcA14, 8, .inl (fun _ => 0))), (mq15, .inl (mcA16, 8, .inl (fun _ => 0))), (mq17, .inl (mcA18, 8, .inl (fun _ => 0))), (mq19, .inl (mcA20, 6, .inl (fun _ => 0))), (mq21, .inl (mcA22, 6, .inl (fun _ => 0))), (mq23, .inl (mcA24, 3636, .inl (fun _ => 0))), (mq25, .inl (mcA26, 6, .inl (fun _ => 0))), (mq27, .inl (mcA28, 6, .inl (fun _ => 0))), (mq29, .inl (mcA30, 6, .inl (fun _ => 0)))]) hP hD [35] [0, 1, 2, 3, 4, 5, 6, 7, 8, 9, 10, 11, 12, 13, 14, 15, 16, 17, 18, 19, 20, 21, 22, 23, 24, 25, 26, 27, 28, 29, 30, 31, 32, 33, 34] rfl rfl (by decide) (by decide) hk1 hFc hP1 hD1
  have hK := (hK.sub (tys' := [(xcA2, .object "PondRings$Sheet"), (xcA5, .int), (xcA8, .int), (xcA11, .int), (xcA14, .int), (xcA19, .long), (xcA20, .int), (xcA25, .int), (xcA26, .int), (xcA27, .int), (xcA32, .int), (xcA33, .int), (xcA34, .int), (xcA39, .int), (xcA40, .int), (xcA41, .int), (xcA50, .long), (xcA51, .long), (xcA52, .long), (xcA53, .int), (xcA54, .int), (xcA55, .int), (xcA57, .int)]) [0, 1, 2, 3, 4, 5, 6, 7, 8, 9, 10, 11, 12, 13, 14, 15, 16, 17, 18, 19, 20, 21, 22] rfl).app hK1
  generalize H1 = H at hP hS ⊢
  have hP : va_P D mm_K [(qx, .inr (6, [.ref xq1, .ref xq15, .ref xq16, .ref xq21, .ref xq28, .ref xq35, .ref xq42, .ref xq43, .ref xq56, .int (0 : Int32), .int (0 : Int32)])), (xq1, .inl (xcA2, 4, .inr (.inr (.inr (.inr (va_up (va_up (va_up (va_up (fun _ => none) 0 (some xq3)) 1 (some xq6)) 2 (some xq9)) 3 (some xq12))))))), (xq3, .inr (4, [.ref xq4, .int 0, .int 0, .int 0])), (xq4, .inl (xcA5, 60, .inl (fun _ => 0))), (xq6, .inr (4, [.ref xq7, .int 0, .int 0, .int 0])), (xq7, .inl (xcA8, 60, .inl (fun _ => 0))), (xq9, .inr (4, [.ref xq10, .int 0, .int 0, .int 0])), (xq10, .inl (xcA11, 60, .inl (fun _ => 0))), (xq12, .inr (4, [.ref xq13, .int 0, .int 0, .int 0])), (xq13, .inl (xcA14, 60, .inl (fun _ => 0))), (xq15, .inr (3, [.int 0, .int 0, .long 0])), (xq16, .inr (2, [.ref xq17, .ref xq18, .long 0, .long 0, .long 0, .int 0, .int 0, .long 0])), (xq17, .inl (xcA19, 1764, .inr (.inl (fun _ => 0)))), (xq18, .inl (xcA20, 42, .inl (fun _ => 0))), (xq21, .inr (0, [.ref xq22, .ref xq23, .ref xq24, .int 0])), (xq22, .inl (xcA25, 8, .inl (fun _ => 0))), (xq23, .inl (xcA26, 8, .inl (fun _ => 0))), (xq24, .inl (xcA27, 8, .inl (fun _ => 0))), (xq28, .inr (0, [.ref xq29, .ref xq30, .ref xq31, .int 0])), (xq29, .inl (xcA32, 6, .inl (fun _ => 0))), (xq30, .inl (xcA33, 6, .inl (fun _ => 0))), (xq31, .inl (xcA34, 6, .inl (fun _ => 0))), (xq35, .inr (0, [.ref xq36, .ref xq37, .ref xq38, .int 0])), (xq36, .inl (xcA39, 6, .inl (fun _ => 0))), (xq37, .inl (xcA40, 6, .inl (fun _ => 0))), (xq38, .inl (xcA41, 6, .inl (fun _ => 0))), (xq42, .inr (1, [.int 0, .int 0])), (xq43, .inr (5, [.ref xq44, .ref xq45, .ref xq46, .ref xq47, .int 0, .ref xq48, .ref xq49, .int 0])), (xq44, .inl (xcA50, 36, .inr (.inl (fun _ => 0)))), (xq45, .inl (xcA51, 36, .inr (.inl (fun _ => 0)))), (xq46, .inl (xcA52, 36, .inr (.inl (fun _ => 0)))), (xq47, .inl (xcA53, 6, .inl (fun _ => 0))), (xq48, .inl (xcA54, 6, .inl (fun _ => 0))), (xq49, .inl (xcA55, 6, .inl (fun _ => 0))), (xq56, .inl (xcA57, 6, .inl (fun _ => 0))), (qm, .inr (7, [.int 0, .int 0, .ref mq1, .ref mq3, .ref mq5, .int 0, .int 0, .ref mq7, .ref mq9, .int 0, .int 0, .int 0, .ref mq11, .int 0, .ref mq13, .ref mq15, .ref mq17, .int 0, .int 0, .int 0, .int 0, .ref mq19, .ref mq21, .ref mq23, .ref mq25, .int 0, .ref mq27, .ref mq29])), (mq1, .inl (mcA2, 4, .inl (upd (upd (upd (upd (fun _ => 0) 0 (-9 : Int32)) 1 (-9 : Int32)) 2 (-9 : Int32)) 3 (-9 : Int32)))), (mq3, .inl (mcA4, 4, .inl (fun _ => 0))), (mq5, .inl (mcA6, 240, .inl (fun _ => 0))), (mq7, .inl (mcA8, 42, .inl (fun _ => 0))), (mq9, .inl (mcA10, 1764, .inl (fun _ => 0))), (mq11, .inl (mcA12, 42, .inl (fun _ => 0))), (mq13, .inl (mcA14, 8, .inl (fun _ => 0))), (mq15, .inl (mcA16, 8, .inl (fun _ => 0))), (mq17, .inl (mcA18, 8, .inl (fun _ => 0))), (mq19, .inl (mcA20, 6, .inl (fun _ => 0))), (mq21, .inl (mcA22, 6, .inl (fun _ => 0))), (mq23, .inl (mcA24, 3636, .inl (fun _ => 0))), (mq25, .inl (mcA26, 6, .inl (fun _ => 0))), (mq27, .inl (mcA28, 6, .inl (fun _ => 0))), (mq29, .inl (mcA30, 6, .inl (fun _ => 0)))] H := hP
  have hD : va_D (fun q : Nat => s.heap.size ≤ q) [(qx, .inr (6, [.ref xq1, .ref xq15, .ref xq16, .ref xq21, .ref xq28, .ref xq35, .ref xq42, .ref xq43, .ref xq56, .int (0 : Int32), .int (0 : Int32)])), (xq1, .inl (xcA2, 4, .inr (.inr (.inr (.inr (va_up (va_up (va_up (va_up (fun _ => none) 0 (some xq3)) 1 (some xq6)) 2 (some xq9)) 3 (some xq12))))))), (xq3, .inr (4, [.ref xq4, .int 0, .int 0, .int 0])), (xq4, .inl (xcA5, 60, .inl (fun _ => 0))), (xq6, .inr (4, [.ref xq7, .int 0, .int 0, .int 0])), (xq7, .inl (xcA8, 60, .inl (fun _ => 0))), (xq9, .inr (4, [.ref xq10, .int 0, .int 0, .int 0])), (xq10, .inl (xcA11, 60, .inl (fun _ => 0))), (xq12, .inr (4, [.ref xq13, .int 0, .int 0, .int 0])), (xq13, .inl (xcA14, 60, .inl (fun _ => 0))), (xq15, .inr (3, [.int 0, .int 0, .long 0])), (xq16, .inr (2, [.ref xq17, .ref xq18, .long 0, .long 0, .long 0, .int 0, .int 0, .long 0])), (xq17, .inl (xcA19, 1764, .inr (.inl (fun _ => 0)))), (xq18, .inl (xcA20, 42, .inl (fun _ => 0))), (xq21, .inr (0, [.ref xq22, .ref xq23, .ref xq24, .int 0])), (xq22, .inl (xcA25, 8, .inl (fun _ => 0))), (xq23, .inl (xcA26, 8, .inl (fun _ => 0))), (xq24, .inl (xcA27, 8, .inl (fun _ => 0))), (xq28, .inr (0, [.ref xq29, .ref xq30, .ref xq31, .int 0])), (xq29, .inl (xcA32, 6, .inl (fun _ => 0))), (xq30, .inl (xcA33, 6, .inl (fun _ => 0))), (xq31, .inl (xcA34, 6, .inl (fun _ => 0))), (xq35, .inr (0, [.ref xq36, .ref xq37, .ref xq38, .int 0])), (xq36, .inl (xcA39, 6, .inl (fun _ => 0))), (xq37, .inl (xcA40, 6, .inl (fun _ => 0))), (xq38, .inl (xcA41, 6, .inl (fun _ => 0))), (xq42, .inr (1, [.int 0, .int 0])), (xq43, .inr (5, [.ref xq44, .ref xq45, .ref xq46, .ref xq47, .int 0, .ref xq48, .ref xq49, .int 0])), (xq44, .inl (xcA50, 36, .inr (.inl (fun _ => 0)))), (xq45, .inl (xcA51, 36, .inr (.inl (fun _ => 0)))), (xq46, .inl (xcA52, 36, .inr (.inl (fun _ => 0)))), (xq47, .inl (xcA53, 6, .inl (fun _ => 0))), (xq48, .inl (xcA54, 6, .inl (fun _ => 0))), (xq49, .inl (xcA55, 6, .inl (fun _ => 0))), (xq56, .inl (xcA57, 6, .inl (fun _ => 0))), (qm, .inr (7, [.int 0, .int 0, .ref mq1, .ref mq3, .ref mq5, .int 0, .int 0, .ref mq7, .ref mq9, .int 0, .int 0, .int 0, .ref mq11, .int 0, .ref mq13, .ref mq15, .ref mq17, .int 0, .int 0, .int 0, .int 0, .ref mq19, .ref mq21, .ref mq23, .ref mq25, .int 0, .ref mq27, .ref mq29])), (mq1, .inl (mcA2, 4, .inl (upd (upd (upd (upd (fun _ => 0) 0 (-9 : Int32)) 1 (-9 : Int32)) 2 (-9 : Int32)) 3 (-9 : Int32)))), (mq3, .inl (mcA4, 4, .inl (fun _ => 0))), (mq5, .inl (mcA6, 240, .inl (fun _ => 0))), (mq7, .inl (mcA8, 42, .inl (fun _ => 0))), (mq9, .inl (mcA10, 1764, .inl (fun _ => 0))), (mq11, .inl (mcA12, 42, .inl (fun _ => 0))), (mq13, .inl (mcA14, 8, .inl (fun _ => 0))), (mq15, .inl (mcA16, 8, .inl (fun _ => 0))), (mq17, .inl (mcA18, 8, .inl (fun _ => 0))), (mq19, .inl (mcA20, 6, .inl (fun _ => 0))), (mq21, .inl (mcA22, 6, .inl (fun _ => 0))), (mq23, .inl (mcA24, 3636, .inl (fun _ => 0))), (mq25, .inl (mcA26, 6, .inl (fun _ => 0))), (mq27, .inl (mcA28, 6, .inl (fun _ => 0))), (mq29, .inl (mcA30, 6, .inl (fun _ => 0)))] := hD
  have hK : va_K D mm_K [(xcA2, .object "PondRings$Sheet"), (xcA5, .int), (xcA8, .int), (xcA11, .int), (xcA14, .int), (xcA19, .long), (xcA20, .int), (xcA25, .int), (xcA26, .int), (xcA27, .int), (xcA32, .int), (xcA33, .int), (xcA34, .int), (xcA39, .int), (xcA40, .int), (xcA41, .int), (xcA50, .long), (xcA51, .long), (xcA52, .long), (xcA53, .int), (xcA54, .int), (xcA55, .int), (xcA57, .int), (mcA2, .int), (mcA4, .int), (mcA6, .int), (mcA8, .boolean), (mcA10, .int), (mcA12, .boolean), (mcA14, .int), (mcA16, .int), (mcA18, .int), (mcA20, .int), (mcA22, .int), (mcA24, .boolean), (mcA26, .int), (mcA28, .int), (mcA30, .int)] s := hK
  refine lv_astore_n (lv' := [(2, .ref qm), (1, .ref qx), (0, .ref b)]) hx hb dl_15 rfl hl (by decide) rfl (fun ls hl => ?_)
  refine lv_iconst (v := 0) hx hb dl_16 (by decide) ?_
  refine lv_istore_n (lv' := [(3, .int 0), (2, .ref qm), (1, .ref qx), (0, .ref b)]) hx hb dl_17 rfl hl (by decide) rfl (fun ls hl => ?_)
  have hP := hP.sub (ws' := [(qx, .inr (6, [.ref xq1, .ref xq15, .ref xq16, .ref xq21, .ref xq28, .ref xq35, .ref xq42, .ref xq43, .ref xq56, .int (0 : Int32), .int (0 : Int32)])), (xq1, .inl (xcA2, 4, .inr (.inr (.inr (.inr (va_up (va_up (va_up (va_up (fun _ => none) 0 (some xq3)) 1 (some xq6)) 2 (some xq9)) 3 (some xq12))))))), (xq3, .inr (4, [.ref xq4, .int 0, .int 0, .int 0])), (xq6, .inr (4, [.ref xq7, .int 0, .int 0, .int 0])), (xq9, .inr (4, [.ref xq10, .int 0, .int 0, .int 0])), (xq12, .inr (4, [.ref xq13, .int 0, .int 0, .int 0])), (xq4, .inl (xcA5, 60, .inl (fun _ => 0))), (xq7, .inl (xcA8, 60, .inl (fun _ => 0))), (xq10, .inl (xcA11, 60, .inl (fun _ => 0))), (xq13, .inl (xcA14, 60, .inl (fun _ => 0))), (xq15, .inr (3, [.int 0, .int 0, .long 0])), (xq16, .inr (2, [.ref xq17, .ref xq18, .long 0, .long 0, .long 0, .int 0, .int 0, .long 0])), (xq17, .inl (xcA19, 1764, .inr (.inl (fun _ => 0)))), (xq18, .inl (xcA20, 42, .inl (fun _ => 0))), (xq21, .inr (0, [.ref xq22, .ref xq23, .ref xq24, .int 0])), (xq22, .inl (xcA25, 8, .inl (fun _ => 0))), (xq23, .inl (xcA26, 8, .inl (fun _ => 0))), (xq24, .inl (xcA27, 8, .inl (fun _ => 0))), (xq28, .inr (0, [.ref xq29, .ref xq30, .ref xq31, .int 0])), (xq29, .inl (xcA32, 6, .inl (fun _ => 0))), (xq30, .inl (xcA33, 6, .inl (fun _ => 0))), (xq31, .inl (xcA34, 6, .inl (fun _ => 0))), (xq35, .inr (0, [.ref xq36, .ref xq37, .ref xq38, .int 0])), (xq36, .inl (xcA39, 6, .inl (fun _ => 0))), (xq37, .inl (xcA40, 6, .inl (fun _ => 0))), (xq38, .inl (xcA41, 6, .inl (fun _ => 0))), (xq42, .inr (1, [.int 0, .int 0])), (xq43, .inr (5, [.ref xq44, .ref xq45, .ref xq46, .ref xq47, .int 0, .ref xq48, .ref xq49, .int 0])), (xq44, .inl (xcA50, 36, .inr (.inl (fun _ => 0)))), (xq45, .inl (xcA51, 36, .inr (.inl (fun _ => 0)))), (xq46, .inl (xcA52, 36, .inr (.inl (fun _ => 0)))), (xq47, .inl (xcA53, 6, .inl (fun _ => 0))), (xq48, .inl (xcA54, 6, .inl (fun _ => 0))), (xq49, .inl (xcA55, 6, .inl (fun _ => 0))), (xq56, .inl (xcA57, 6, .inl (fun _ => 0))), (qm, .inr (7, [.int 0, .int 0, .ref mq1, .ref mq3, .ref mq5, .int 0, .int 0, .ref mq7, .ref mq9, .int 0, .int 0, .int 0, .ref mq11, .int 0, .ref mq13, .ref mq15, .ref mq17, .int 0, .int 0, .int 0, .int 0, .ref mq19, .ref mq21, .ref mq23, .ref mq25, .int 0, .ref mq27, .ref mq29])), (mq1, .inl (mcA2, 4, .inl (upd (upd (upd (upd (fun _ => 0) 0 (-9 : Int32)) 1 (-9 : Int32)) 2 (-9 : Int32)) 3 (-9 : Int32)))), (mq3, .inl (mcA4, 4, .inl (fun _ => 0))), (mq5, .inl (mcA6, 240, .inl (fun _ => 0))), (mq7, .inl (mcA8, 42, .inl (fun _ => 0))), (mq9, .inl (mcA10, 1764, .inl (fun _ => 0))), (mq11, .inl (mcA12, 42, .inl (fun _ => 0))), (mq13, .inl (mcA14, 8, .inl (fun _ => 0))), (mq15, .inl (mcA16, 8, .inl (fun _ => 0))), (mq17, .inl (mcA18, 8, .inl (fun _ => 0))), (mq19, .inl (mcA20, 6, .inl (fun _ => 0))), (mq21, .inl (mcA22, 6, .inl (fun _ => 0))), (mq23, .inl (mcA24, 3636, .inl (fun _ => 0))), (mq25, .inl (mcA26, 6, .inl (fun _ => 0))), (mq27, .inl (mcA28, 6, .inl (fun _ => 0))), (mq29, .inl (mcA30, 6, .inl (fun _ => 0)))]) [0, 1, 2, 4, 6, 8, 3, 5, 7, 9, 10, 11, 12, 13, 14, 15, 16, 17, 18, 19, 20, 21, 22, 23, 24, 25, 26, 27, 28, 29, 30, 31, 32, 33, 34, 35, 36, 37, 38, 39, 40, 41, 42, 43, 44, 45, 46, 47, 48, 49, 50] rfl
  have hD := hD.sub (ws' := [(qx, .inr (6, [.ref xq1, .ref xq15, .ref xq16, .ref xq21, .ref xq28, .ref xq35, .ref xq42, .ref xq43, .ref xq56, .int (0 : Int32), .int (0 : Int32)])), (xq1, .inl (xcA2, 4, .inr (.inr (.inr (.inr (va_up (va_up (va_up (va_up (fun _ => none) 0 (some xq3)) 1 (some xq6)) 2 (some xq9)) 3 (some xq12))))))), (xq3, .inr (4, [.ref xq4, .int 0, .int 0, .int 0])), (xq6, .inr (4, [.ref xq7, .int 0, .int 0, .int 0])), (xq9, .inr (4, [.ref xq10, .int 0, .int 0, .int 0])), (xq12, .inr (4, [.ref xq13, .int 0, .int 0, .int 0])), (xq4, .inl (xcA5, 60, .inl (fun _ => 0))), (xq7, .inl (xcA8, 60, .inl (fun _ => 0))), (xq10, .inl (xcA11, 60, .inl (fun _ => 0))), (xq13, .inl (xcA14, 60, .inl (fun _ => 0))), (xq15, .inr (3, [.int 0, .int 0, .long 0])), (xq16, .inr (2, [.ref xq17, .ref xq18, .long 0, .long 0, .long 0, .int 0, .int 0, .long 0])), (xq17, .inl (xcA19, 1764, .inr (.inl (fun _ => 0)))), (xq18, .inl (xcA20, 42, .inl (fun _ => 0))), (xq21, .inr (0, [.ref xq22, .ref xq23, .ref xq24, .int 0])), (xq22, .inl (xcA25, 8, .inl (fun _ => 0))), (xq23, .inl (xcA26, 8, .inl (fun _ => 0))), (xq24, .inl (xcA27, 8, .inl (fun _ => 0))), (xq28, .inr (0, [.ref xq29, .ref xq30, .ref xq31, .int 0])), (xq29, .inl (xcA32, 6, .inl (fun _ => 0))), (xq30, .inl (xcA33, 6, .inl (fun _ => 0))), (xq31, .inl (xcA34, 6, .inl (fun _ => 0))), (xq35, .inr (0, [.ref xq36, .ref xq37, .ref xq38, .int 0])), (xq36, .inl (xcA39, 6, .inl (fun _ => 0))), (xq37, .inl (xcA40, 6, .inl (fun _ => 0))), (xq38, .inl (xcA41, 6, .inl (fun _ => 0))), (xq42, .inr (1, [.int 0, .int 0])), (xq43, .inr (5, [.ref xq44, .ref xq45, .ref xq46, .ref xq47, .int 0, .ref xq48, .ref xq49, .int 0])), (xq44, .inl (xcA50, 36, .inr (.inl (fun _ => 0)))), (xq45, .inl (xcA51, 36, .inr (.inl (fun _ => 0)))), (xq46, .inl (xcA52, 36, .inr (.inl (fun _ => 0)))), (xq47, .inl (xcA53, 6, .inl (fun _ => 0))), (xq48, .inl (xcA54, 6, .inl (fun _ => 0))), (xq49, .inl (xcA55, 6, .inl (fun _ => 0))), (xq56, .inl (xcA57, 6, .inl (fun _ => 0))), (qm, .inr (7, [.int 0, .int 0, .ref mq1, .ref mq3, .ref mq5, .int 0, .int 0, .ref mq7, .ref mq9, .int 0, .int 0, .int 0, .ref mq11, .int 0, .ref mq13, .ref mq15, .ref mq17, .int 0, .int 0, .int 0, .int 0, .ref mq19, .ref mq21, .ref mq23, .ref mq25, .int 0, .ref mq27, .ref mq29])), (mq1, .inl (mcA2, 4, .inl (upd (upd (upd (upd (fun _ => 0) 0 (-9 : Int32)) 1 (-9 : Int32)) 2 (-9 : Int32)) 3 (-9 : Int32)))), (mq3, .inl (mcA4, 4, .inl (fun _ => 0))), (mq5, .inl (mcA6, 240, .inl (fun _ => 0))), (mq7, .inl (mcA8, 42, .inl (fun _ => 0))), (mq9, .inl (mcA10, 1764, .inl (fun _ => 0))), (mq11, .inl (mcA12, 42, .inl (fun _ => 0))), (mq13, .inl (mcA14, 8, .inl (fun _ => 0))), (mq15, .inl (mcA16, 8, .inl (fun _ => 0))), (mq17, .inl (mcA18, 8, .inl (fun _ => 0))), (mq19, .inl (mcA20, 6, .inl (fun _ => 0))), (mq21, .inl (mcA22, 6, .inl (fun _ => 0))), (mq23, .inl (mcA24, 3636, .inl (fun _ => 0))), (mq25, .inl (mcA26, 6, .inl (fun _ => 0))), (mq27, .inl (mcA28, 6, .inl (fun _ => 0))), (mq29, .inl (mcA30, 6, .inl (fun _ => 0)))]) [0, 1, 2, 4, 6, 8, 3, 5, 7, 9, 10, 11, 12, 13, 14, 15, 16, 17, 18, 19, 20, 21, 22, 23, 24, 25, 26, 27, 28, 29, 30, 31, 32, 33, 34, 35, 36, 37, 38, 39, 40, 41, 42, 43, 44, 45, 46, 47, 48, 49, 50] (by decide) rfl
  obtain ⟨ad, had⟩ : ∃ ad : Nat → Nat, ad = fun k => match k with | 0 => tr | 1 => b | 2 => qx | 3 => xq1 | 4 => xq3 | 5 => xq6 | 6 => xq9 | 7 => xq12 | 8 => xq4 | 9 => xq7 | 10 => xq10 | 11 => xq13 | 12 => xq15 | 13 => xq16 | 14 => xq17 | 15 => xq18 | 16 => xq21 | 17 => xq22 | 18 => xq23 | 19 => xq24 | 20 => xq28 | 21 => xq29 | 22 => xq30 | 23 => xq31 | 24 => xq35 | 25 => xq36 | 26 => xq37 | 27 => xq38 | 28 => xq42 | 29 => xq43 | 30 => xq44 | 31 => xq45 | 32 => xq46 | 33 => xq47 | 34 => xq48 | 35 => xq49 | 36 => xq56 | 37 => qm | 38 => mq1 | 39 => mq3 | 40 => mq5 | 41 => mq7 | 42 => mq9 | 43 => mq11 | 44 => mq13 | 45 => mq15 | 46 => mq17 | 47 => mq19 | 48 => mq21 | 49 => mq23 | 50 => mq25 | 51 => mq27 | 52 => mq29 | _ => 0 := ⟨_, rfl⟩
  obtain ⟨ca, hca⟩ : ∃ ca : Nat → ClassId, ca = fun k => match k with | 3 => xcA2 | 8 => xcA5 | 9 => xcA8 | 10 => xcA11 | 11 => xcA14 | 14 => xcA19 | 15 => xcA20 | 17 => xcA25 | 18 => xcA26 | 19 => xcA27 | 21 => xcA32 | 22 => xcA33 | 23 => xcA34 | 25 => xcA39 | 26 => xcA40 | 27 => xcA41 | 30 => xcA50 | 31 => xcA51 | 32 => xcA52 | 33 => xcA53 | 34 => xcA54 | 35 => xcA55 | 36 => xcA57 | 38 => mcA2 | 39 => mcA4 | 40 => mcA6 | 41 => mcA8 | 42 => mcA10 | 43 => mcA12 | 44 => mcA14 | 45 => mcA16 | 46 => mcA18 | 47 => mcA20 | 48 => mcA22 | 49 => mcA24 | 50 => mcA26 | 51 => mcA28 | 52 => mcA30 | _ => xcA2 := ⟨_, rfl⟩
  have hsh : (fun j : Nat => (mm_she j).map ad) = (va_up (va_up (va_up (va_up (fun _ => none) 0 (some xq3)) 1 (some xq6)) 2 (some xq9)) 3 (some xq12)) := by
    funext j
    subst had
    unfold mm_she va_up
    (repeat' split) <;> rfl
  have a0 : ad 0 = tr := by subst had; rfl
  have a1 : ad 1 = b := by subst had; rfl
  have a2 : ad 2 = qx := by subst had; rfl
  have a3 : ad 3 = xq1 := by subst had; rfl
  have a4 : ad 4 = xq3 := by subst had; rfl
  have a5 : ad 5 = xq6 := by subst had; rfl
  have a6 : ad 6 = xq9 := by subst had; rfl
  have a7 : ad 7 = xq12 := by subst had; rfl
  have a8 : ad 8 = xq4 := by subst had; rfl
  have a9 : ad 9 = xq7 := by subst had; rfl
  have a10 : ad 10 = xq10 := by subst had; rfl
  have a11 : ad 11 = xq13 := by subst had; rfl
  have a12 : ad 12 = xq15 := by subst had; rfl
  have a13 : ad 13 = xq16 := by subst had; rfl
  have a14 : ad 14 = xq17 := by subst had; rfl
  have a15 : ad 15 = xq18 := by subst had; rfl
  have a16 : ad 16 = xq21 := by subst had; rfl
  have a17 : ad 17 = xq22 := by subst had; rfl
  have a18 : ad 18 = xq23 := by subst had; rfl
  have a19 : ad 19 = xq24 := by subst had; rfl
  have a20 : ad 20 = xq28 := by subst had; rfl
  have a21 : ad 21 = xq29 := by subst had; rfl
  have a22 : ad 22 = xq30 := by subst had; rfl
  have a23 : ad 23 = xq31 := by subst had; rfl
  have a24 : ad 24 = xq35 := by subst had; rfl
  have a25 : ad 25 = xq36 := by subst had; rfl
  have a26 : ad 26 = xq37 := by subst had; rfl
  have a27 : ad 27 = xq38 := by subst had; rfl
  have a28 : ad 28 = xq42 := by subst had; rfl
  have a29 : ad 29 = xq43 := by subst had; rfl
  have a30 : ad 30 = xq44 := by subst had; rfl
  have a31 : ad 31 = xq45 := by subst had; rfl
  have a32 : ad 32 = xq46 := by subst had; rfl
  have a33 : ad 33 = xq47 := by subst had; rfl
  have a34 : ad 34 = xq48 := by subst had; rfl
  have a35 : ad 35 = xq49 := by subst had; rfl
  have a36 : ad 36 = xq56 := by subst had; rfl
  have a37 : ad 37 = qm := by subst had; rfl
  have a38 : ad 38 = mq1 := by subst had; rfl
  have a39 : ad 39 = mq3 := by subst had; rfl
  have a40 : ad 40 = mq5 := by subst had; rfl
  have a41 : ad 41 = mq7 := by subst had; rfl
  have a42 : ad 42 = mq9 := by subst had; rfl
  have a43 : ad 43 = mq11 := by subst had; rfl
  have a44 : ad 44 = mq13 := by subst had; rfl
  have a45 : ad 45 = mq15 := by subst had; rfl
  have a46 : ad 46 = mq17 := by subst had; rfl
  have a47 : ad 47 = mq19 := by subst had; rfl
  have a48 : ad 48 = mq21 := by subst had; rfl
  have a49 : ad 49 = mq23 := by subst had; rfl
  have a50 : ad 50 = mq25 := by subst had; rfl
  have a51 : ad 51 = mq27 := by subst had; rfl
  have a52 : ad 52 = mq29 := by subst had; rfl
  have b3 : ca 3 = xcA2 := by subst hca; rfl
  have b8 : ca 8 = xcA5 := by subst hca; rfl
  have b9 : ca 9 = xcA8 := by subst hca; rfl
  have b10 : ca 10 = xcA11 := by subst hca; rfl
  have b11 : ca 11 = xcA14 := by subst hca; rfl
  have b14 : ca 14 = xcA19 := by subst hca; rfl
  have b15 : ca 15 = xcA20 := by subst hca; rfl
  have b17 : ca 17 = xcA25 := by subst hca; rfl
  have b18 : ca 18 = xcA26 := by subst hca; rfl
  have b19 : ca 19 = xcA27 := by subst hca; rfl
  have b21 : ca 21 = xcA32 := by subst hca; rfl
  have b22 : ca 22 = xcA33 := by subst hca; rfl
  have b23 : ca 23 = xcA34 := by subst hca; rfl
  have b25 : ca 25 = xcA39 := by subst hca; rfl
  have b26 : ca 26 = xcA40 := by subst hca; rfl
  have b27 : ca 27 = xcA41 := by subst hca; rfl
  have b30 : ca 30 = xcA50 := by subst hca; rfl
  have b31 : ca 31 = xcA51 := by subst hca; rfl
  have b32 : ca 32 = xcA52 := by subst hca; rfl
  have b33 : ca 33 = xcA53 := by subst hca; rfl
  have b34 : ca 34 = xcA54 := by subst hca; rfl
  have b35 : ca 35 = xcA55 := by subst hca; rfl
  have b36 : ca 36 = xcA57 := by subst hca; rfl
  have b38 : ca 38 = mcA2 := by subst hca; rfl
  have b39 : ca 39 = mcA4 := by subst hca; rfl
  have b40 : ca 40 = mcA6 := by subst hca; rfl
  have b41 : ca 41 = mcA8 := by subst hca; rfl
  have b42 : ca 42 = mcA10 := by subst hca; rfl
  have b43 : ca 43 = mcA12 := by subst hca; rfl
  have b44 : ca 44 = mcA14 := by subst hca; rfl
  have b45 : ca 45 = mcA16 := by subst hca; rfl
  have b46 : ca 46 = mcA18 := by subst hca; rfl
  have b47 : ca 47 = mcA20 := by subst hca; rfl
  have b48 : ca 48 = mcA22 := by subst hca; rfl
  have b49 : ca 49 = mcA24 := by subst hca; rfl
  have b50 : ca 50 = mcA26 := by subst hca; rfl
  have b51 : ca 51 = mcA28 := by subst hca; rfl
  have b52 : ca 52 = mcA30 := by subst hca; rfl
  have hw : mm_w ad ca (HH (L, xs) s0) = [(qx, .inr (6, [.ref xq1, .ref xq15, .ref xq16, .ref xq21, .ref xq28, .ref xq35, .ref xq42, .ref xq43, .ref xq56, .int (0 : Int32), .int (0 : Int32)])), (xq1, .inl (xcA2, 4, .inr (.inr (.inr (.inr (va_up (va_up (va_up (va_up (fun _ => none) 0 (some xq3)) 1 (some xq6)) 2 (some xq9)) 3 (some xq12))))))), (xq3, .inr (4, [.ref xq4, .int 0, .int 0, .int 0])), (xq6, .inr (4, [.ref xq7, .int 0, .int 0, .int 0])), (xq9, .inr (4, [.ref xq10, .int 0, .int 0, .int 0])), (xq12, .inr (4, [.ref xq13, .int 0, .int 0, .int 0])), (xq4, .inl (xcA5, 60, .inl (fun _ => 0))), (xq7, .inl (xcA8, 60, .inl (fun _ => 0))), (xq10, .inl (xcA11, 60, .inl (fun _ => 0))), (xq13, .inl (xcA14, 60, .inl (fun _ => 0))), (xq15, .inr (3, [.int 0, .int 0, .long 0])), (xq16, .inr (2, [.ref xq17, .ref xq18, .long 0, .long 0, .long 0, .int 0, .int 0, .long 0])), (xq17, .inl (xcA19, 1764, .inr (.inl (fun _ => 0)))), (xq18, .inl (xcA20, 42, .inl (fun _ => 0))), (xq21, .inr (0, [.ref xq22, .ref xq23, .ref xq24, .int 0])), (xq22, .inl (xcA25, 8, .inl (fun _ => 0))), (xq23, .inl (xcA26, 8, .inl (fun _ => 0))), (xq24, .inl (xcA27, 8, .inl (fun _ => 0))), (xq28, .inr (0, [.ref xq29, .ref xq30, .ref xq31, .int 0])), (xq29, .inl (xcA32, 6, .inl (fun _ => 0))), (xq30, .inl (xcA33, 6, .inl (fun _ => 0))), (xq31, .inl (xcA34, 6, .inl (fun _ => 0))), (xq35, .inr (0, [.ref xq36, .ref xq37, .ref xq38, .int 0])), (xq36, .inl (xcA39, 6, .inl (fun _ => 0))), (xq37, .inl (xcA40, 6, .inl (fun _ => 0))), (xq38, .inl (xcA41, 6, .inl (fun _ => 0))), (xq42, .inr (1, [.int 0, .int 0])), (xq43, .inr (5, [.ref xq44, .ref xq45, .ref xq46, .ref xq47, .int 0, .ref xq48, .ref xq49, .int 0])), (xq44, .inl (xcA50, 36, .inr (.inl (fun _ => 0)))), (xq45, .inl (xcA51, 36, .inr (.inl (fun _ => 0)))), (xq46, .inl (xcA52, 36, .inr (.inl (fun _ => 0)))), (xq47, .inl (xcA53, 6, .inl (fun _ => 0))), (xq48, .inl (xcA54, 6, .inl (fun _ => 0))), (xq49, .inl (xcA55, 6, .inl (fun _ => 0))), (xq56, .inl (xcA57, 6, .inl (fun _ => 0))), (qm, .inr (7, [.int 0, .int 0, .ref mq1, .ref mq3, .ref mq5, .int 0, .int 0, .ref mq7, .ref mq9, .int 0, .int 0, .int 0, .ref mq11, .int 0, .ref mq13, .ref mq15, .ref mq17, .int 0, .int 0, .int 0, .int 0, .ref mq19, .ref mq21, .ref mq23, .ref mq25, .int 0, .ref mq27, .ref mq29])), (mq1, .inl (mcA2, 4, .inl (upd (upd (upd (upd (fun _ => 0) 0 (-9 : Int32)) 1 (-9 : Int32)) 2 (-9 : Int32)) 3 (-9 : Int32)))), (mq3, .inl (mcA4, 4, .inl (fun _ => 0))), (mq5, .inl (mcA6, 240, .inl (fun _ => 0))), (mq7, .inl (mcA8, 42, .inl (fun _ => 0))), (mq9, .inl (mcA10, 1764, .inl (fun _ => 0))), (mq11, .inl (mcA12, 42, .inl (fun _ => 0))), (mq13, .inl (mcA14, 8, .inl (fun _ => 0))), (mq15, .inl (mcA16, 8, .inl (fun _ => 0))), (mq17, .inl (mcA18, 8, .inl (fun _ => 0))), (mq19, .inl (mcA20, 6, .inl (fun _ => 0))), (mq21, .inl (mcA22, 6, .inl (fun _ => 0))), (mq23, .inl (mcA24, 3636, .inl (fun _ => 0))), (mq25, .inl (mcA26, 6, .inl (fun _ => 0))), (mq27, .inl (mcA28, 6, .inl (fun _ => 0))), (mq29, .inl (mcA30, 6, .inl (fun _ => 0)))] := by
    rw [mm_w_s0, hsh, a2, a3, a4, a5, a6, a7, a8, a9, a10, a11, a12, a13, a14, a15, a16, a17, a18, a19, a20, a21, a22, a23, a24, a25, a26, a27, a28, a29, a30, a31, a32, a33, a34, a35, a36, a37, a38, a39, a40, a41, a42, a43, a44, a45, a46, a47, a48, a49, a50, a51, a52, b3, b8, b9, b10, b11, b14, b15, b17, b18, b19, b21, b22, b23, b25, b26, b27, b30, b31, b32, b33, b34, b35, b36, b38, b39, b40, b41, b42, b43, b44, b45, b46, b47, b48, b49, b50, b51, b52]
  rw [← hw] at hP hD
  have hT : mm_T [(xcA2, .object "PondRings$Sheet"), (xcA5, .int), (xcA8, .int), (xcA11, .int), (xcA14, .int), (xcA19, .long), (xcA20, .int), (xcA25, .int), (xcA26, .int), (xcA27, .int), (xcA32, .int), (xcA33, .int), (xcA34, .int), (xcA39, .int), (xcA40, .int), (xcA41, .int), (xcA50, .long), (xcA51, .long), (xcA52, .long), (xcA53, .int), (xcA54, .int), (xcA55, .int), (xcA57, .int), (mcA2, .int), (mcA4, .int), (mcA6, .int), (mcA8, .boolean), (mcA10, .int), (mcA12, .boolean), (mcA14, .int), (mcA16, .int), (mcA18, .int), (mcA20, .int), (mcA22, .int), (mcA24, .boolean), (mcA26, .int), (mcA28, .int), (mcA30, .int)] ca (HH (L, xs) s0) := by
    intro q t a hq e9
    subst hca
    match q, hq, e9 with
    | 2, _, e9 => cases e9
    | 3, _, e9 => cases e9; exact ⟨0, rfl⟩
    | 4, _, e9 => cases e9
    | 5, _, e9 => cases e9
    | 6, _, e9 => cases e9
    | 7, _, e9 => cases e9
    | 8, _, e9 => cases e9; exact ⟨1, rfl⟩
    | 9, _, e9 => cases e9; exact ⟨2, rfl⟩
    | 10, _, e9 => cases e9; exact ⟨3, rfl⟩
    | 11, _, e9 => cases e9; exact ⟨4, rfl⟩
    | 12, _, e9 => cases e9
    | 13, _, e9 => cases e9
    | 14, _, e9 => cases e9; exact ⟨5, rfl⟩
    | 15, _, e9 => cases e9; exact ⟨6, rfl⟩
    | 16, _, e9 => cases e9
    | 17, _, e9 => cases e9; exact ⟨7, rfl⟩
    | 18, _, e9 => cases e9; exact ⟨8, rfl⟩
    | 19, _, e9 => cases e9; exact ⟨9, rfl⟩
    | 20, _, e9 => cases e9
    | 21, _, e9 => cases e9; exact ⟨10, rfl⟩
    | 22, _, e9 => cases e9; exact ⟨11, rfl⟩
    | 23, _, e9 => cases e9; exact ⟨12, rfl⟩
    | 24, _, e9 => cases e9
    | 25, _, e9 => cases e9; exact ⟨13, rfl⟩
    | 26, _, e9 => cases e9; exact ⟨14, rfl⟩
    | 27, _, e9 => cases e9; exact ⟨15, rfl⟩
    | 28, _, e9 => cases e9
    | 29, _, e9 => cases e9
    | 30, _, e9 => cases e9; exact ⟨16, rfl⟩
    | 31, _, e9 => cases e9; exact ⟨17, rfl⟩
    | 32, _, e9 => cases e9; exact ⟨18, rfl⟩
    | 33, _, e9 => cases e9; exact ⟨19, rfl⟩
    | 34, _, e9 => cases e9; exact ⟨20, rfl⟩
    | 35, _, e9 => cases e9; exact ⟨21, rfl⟩
    | 36, _, e9 => cases e9; exact ⟨22, rfl⟩
    | 37, _, e9 => cases e9
    | 38, _, e9 => cases e9; exact ⟨23, rfl⟩
    | 39, _, e9 => cases e9; exact ⟨24, rfl⟩
    | 40, _, e9 => cases e9; exact ⟨25, rfl⟩
    | 41, _, e9 => cases e9; exact ⟨26, rfl⟩
    | 42, _, e9 => cases e9; exact ⟨27, rfl⟩
    | 43, _, e9 => cases e9; exact ⟨28, rfl⟩
    | 44, _, e9 => cases e9; exact ⟨29, rfl⟩
    | 45, _, e9 => cases e9; exact ⟨30, rfl⟩
    | 46, _, e9 => cases e9; exact ⟨31, rfl⟩
    | 47, _, e9 => cases e9; exact ⟨32, rfl⟩
    | 48, _, e9 => cases e9; exact ⟨33, rfl⟩
    | 49, _, e9 => cases e9; exact ⟨34, rfl⟩
    | 50, _, e9 => cases e9; exact ⟨35, rfl⟩
    | 51, _, e9 => cases e9; exact ⟨36, rfl⟩
    | 52, _, e9 => cases e9; exact ⟨37, rfl⟩
    | 0, hq, _ => omega
    | 1, hq, _ => omega
    | q + 53, _, e9 => cases e9
  have hZr2 : va_Z "PondRings" "REACH" "[I" (.ref (ad 0)) (fun q : Nat => s.heap.size ≤ q) s s.heap := by rw [a0]; exact hZr
  have hTr2 : va_T .int (ad 0) 3 (fun j => .int (mm_reach j)) (fun q : Nat => s.heap.size ≤ q) s s.heap := by rw [a0]; exact hTr
  have hX2 : va_X (ad 1) L xs s s.heap := by rw [a1]; exact hX
  have hbA2 : ¬ (fun q : Nat => s.heap.size ≤ q) (ad 1) := by rw [a1]; exact hbA
  have hl2 : lv_has ls 4 [(3, .int 0), (2, .ref (ad 37)), (1, .ref (ad 2)), (0, .ref (ad 1))] := by rw [a37, a2, a1]; exact hl
  exact whole_loop hruns hL C0 (D, ad, ca, [(xcA2, .object "PondRings$Sheet"), (xcA5, .int), (xcA8, .int), (xcA11, .int), (xcA14, .int), (xcA19, .long), (xcA20, .int), (xcA25, .int), (xcA26, .int), (xcA27, .int), (xcA32, .int), (xcA33, .int), (xcA34, .int), (xcA39, .int), (xcA40, .int), (xcA41, .int), (xcA50, .long), (xcA51, .long), (xcA52, .long), (xcA53, .int), (xcA54, .int), (xcA55, .int), (xcA57, .int), (mcA2, .int), (mcA4, .int), (mcA6, .int), (mcA8, .boolean), (mcA10, .int), (mcA12, .boolean), (mcA14, .int), (mcA16, .int), (mcA18, .int), (mcA20, .int), (mcA22, .int), (mcA24, .boolean), (mcA26, .int), (mcA28, .int), (mcA30, .int)], (fun q : Nat => s.heap.size ≤ q), L, xs) rfl rfl rfl hx hb hr hml hown htb hlocks ⟨hK, hZr2, hTr2, hX2, hbA2, hn7, hn8, hn9⟩ ⟨hP, hD, hT, ⟨rfl, rfl⟩⟩ hS hl2 (Nat.le_of_ble_eq_true rfl) (Nat.le_of_ble_eq_true rfl)
end
section
theorem law_runs_open : law_runs := sorry
theorem whole_start {p : Program} {e : Env} {s : State} {m : MethodId} {below : List Frame} {meth : Method} {c : Code} (l : Launch) {b L : Nat} {xs : Nat → Int32} (hL : L ≤ 3072) (C0 : lw_At p s m meth c b L xs) : W p l e room_1 s m #[Value.ref b] below meth c s.heap [] 0 0 (lw_Z below #[Value.ref b] s) (entryFrame m ([Value.ref b] : List Value).toArray 4) := whole_open law_runs_open l hL C0
-- ===== YOUR PART ENDS =====
set_option maxHeartbeats 4000000 in
theorem lw_walk (l : Launch) (b : Addr) (xs : List Int32) : MetFree l x (headSpec (Jvm.Cond.code x code maxLocals ret :: tables_1) room_1) (lw_P b xs) (fun _ _ _ _ _ => True) lw_Q := by
  refine MetFree.of_bodyS (code := code) (maxLocals := maxLocals) (ret := ret) (by decide) ?_ ?_
  · intro args s m h hn
    obtain ⟨meth, c, h1, h2, h3, h4, h5, h6, -, -⟩ := Cond.code_spec hn (atoms_spec (ws := Jvm.Cond.code x code maxLocals ret :: tables_1) h _ List.mem_cons_self)
    exact ⟨meth, c, h1, h2, h3, h4, h5, h6⟩
  · intro p e s m args below meth c s₁ B hml0 hP _
    obtain ⟨rfl, hx, hbd, hgv⟩ := hP
    obtain ⟨scr, harrAt, hlist, hof, hsmall⟩ := hx
    obtain ⟨hcb, hkn, -, -⟩ := State.arrayAt?_spec harrAt
    have hown : s.vm.findClass R_law = some m.cls := findClass_of_methodNamed B.named
    have hts0 : ∀ c ∈ (Jvm.Cond.code x code maxLocals ret :: tables_1), c.before #[Value.ref b] s = true := atoms_spec (ws := Jvm.Cond.code x code maxLocals ret :: tables_1) B.pre
    have hts : ∀ w ∈ lw_tbl, w.before #[Value.ref b] s = true := k2_hts_sels lw_privs (fun w hw => hts0 w (List.mem_cons_of_mem _ hw)) lw_privs_ok
    have hml : c.maxLocals = 4 := B.maxLocals_eq (hts0 _ List.mem_cons_self)
    have X₀ : Stand p l e room_1 s m #[Value.ref b] below meth c s₁ [] 0 0 := Stand.of_body B
    have hh0 : s₁.heap = s.heap := by rw [B.state]; rfl
    have hsz : scr.slots.size = xs.length := by rw [← Array.length_toList, hlist, List.length_map]
    have hval : ∀ j : Nat, j < xs.length → scr.slots[j]? = some (.int (xs.getD j 0)) := fun j hj => by
      rw [← Array.getElem?_toList, hlist]
      simp [hj]
    have hbl : b < s.heap.size := (Array.getElem?_eq_some_iff.mp hcb).1
    have hX : va_X b xs.length (fun j => xs.getD j 0) s s.heap := ⟨scr, hcb, hof, hkn, hsz, hval⟩
    have K : W p l e room_1 s m #[Value.ref b] below meth c s₁.heap [] 0 0 (lw_Z below #[Value.ref b] s) (entryFrame m ([Value.ref b] : List Value).toArray 4) := by
      rw [hh0]
      exact whole_start l hbd ⟨B.exec, B.bytes, B.returns, hml, hown, hts, hX, hbl, B.notSynchronized, hgv⟩
    obtain ⟨t, a1, o, b1, b2, b3⟩ := K s₁ rfl X₀
    exact ⟨t, o, a1, b1, b2, b3⟩
theorem lw_pre_spec {args : Array Value} {s : State} (h : (Jvm.Cond.and given_1 narrow_1).before args s = true) (hr : rest_1_c.before args s = true) : ∃ (b : Addr) (xs : List Int32), lw_P b xs args s := by
  have hs := flat_of_before _ h
  have hq := flat_of_before _ hr
  have hc : (Cond.count 1).before args s = true := hs _ (by decide +kernel)
  have harr : (Cond.arrayOf (.arg 0) .int).before args s = true := hs _ (by decide +kernel)
  have hle : (Cond.le (.length (.arg 0)) (.int 3072)).before args s = true := hs _ (by decide +kernel)
  have hlen : (Cond.isInt (.length (.arg 0))).before args s = true := hq _ (by decide +kernel)
  have hall : (Cond.all (.arg 0) (.isInt (.elem (.arg 0) (.index 0)))).before args s = true := hq _ (by decide +kernel)
  obtain ⟨b, xs, hb, hx⟩ := State.ints_of_pre rfl harr hlen hall
  have hsm : xs.length < 2 ^ 31 := hx.choose_spec.2.2.2
  have hev : (Term.length (.arg 0)).eval args s none [] s = some (.int xs.length.toInt32) := hx.length_eval hb
  have hv := Cond.le_ints hev (show (Term.int 3072).eval args s none [] s = some (.int 3072) from rfl)
  have hd : xs.length.toInt32 ≤ 3072 := by
    simpa [Cond.before, Cond.holds, hv] using hle
  have hN : xs.length ≤ 3072 := (Int32.ofNat_le_ofNat hsm (by decide)).mp (show Int32.ofNat xs.length ≤ Int32.ofNat 3072 from hd)
  exact ⟨b, xs, Cond.one_arg hc (show args[0]? = some (.ref b) from hb), hx, hN, h⟩
theorem lw_comes (l : Launch) : Comes l x (Jvm.Cond.code x code maxLocals ret :: tables_1) room_1 (fun tb e args s => Calls_1 tb e args s ∧ rest_1 tb e args s ∧ Pre_1 tb e args s)
    (fun _ _ args s o t => lw_Q args s o t) := by
  intro p e ha hc hk s m args below hf hfit hheap happ hpre
  obtain ⟨b, xs, hP⟩ := lw_pre_spec hpre.2.2 hpre.2.1
  obtain ⟨k, o, h1, h2, h3, hQ⟩ := lw_walk l b xs p e ha hc hk s m args below hf ((Spec.applies_iff_loose hf).mp happ).1 hP trivial
  exact ⟨k, o, h1, h2, h3, hQ⟩
theorem lw_frame {s t : State} {o : Outcome} {args : Array Value} (h : Framed s o t [] 600000 7302250) :
    Framed s o t (fieldLocs frame_1_writes args s ++ arrayLocs frame_1_arrays args s ++ staticLocs frame_1_statics s) 600000 7302250 := h
theorem lw_limb (L : Cond) (hL : ∀ (args : Array Value) (s t : State), L.after args s (.returned (some (.int 1))) t = true) :
    ArmFor flags0 classFile x code maxLocals ret World_1 tables_1 room_1 Calls_1 rest_1 Pre_1
      (fun tb e a s o t => postC L tb e a s o t ∧ Framed s o t (fieldLocs frame_1_writes a s ++ arrayLocs frame_1_arrays a s ++ staticLocs frame_1_statics s) 600000 7302250) := by
  intro l _ _ _ p e ha hc hk s m args below hf hfit hheap happ hpre
  obtain ⟨k, o, h1, h2, h3, rfl, hF⟩ := lw_comes l p e ha hc hk s m args below hf hfit hheap happ hpre
  exact ⟨k, _, h1, h2, h3, hL args s _, lw_frame hF⟩
theorem i_vc : Claimed_1_1 ∧ Claimed_1_2 := ⟨lw_limb limb_1_1 (fun args s t => by simp [limb_1_1, Cond.after, Cond.holds, Cond.value]), lw_limb limb_1_2 (fun args s t => Cond.after_iff.mpr (by
  first | (rw [show limb_1_2 = Cond.eq .result (.int 1) from rfl, Cond.eq_ints (x := 1) (y := 1) rfl rfl]; simp; done) | (simp [limb_1_2, Cond.value, Term.eval]; done)))⟩
end
