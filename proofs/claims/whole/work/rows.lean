section
-- ===== PART A: goes FIRST, ahead of the names: the tables' words, and 'selects' of the private methods out of them =====
/-- a private method of a class that the tables say can be made, by its rows of tables_1 -/
def lw_okq (q : MethodName × Nat) : Prop := (q.1.cls ≠ "java/lang/invoke/MethodHandle" ∧ q.1.cls ≠ "java/lang/invoke/VarHandle") ∧ Cond.instantiable q.1.cls q.2 ∈ tables_1 ∧ Cond.privateMethod q.1 ∈ tables_1 ∧ Cond.instanceMethod q.1 ∈ tables_1
theorem lw_p0 : lw_okq (⟨"WarmFloor", "isPerson", "(I)Z"⟩, 7) := ⟨⟨by decide +kernel, by decide +kernel⟩, List.mem_of_getElem? (i := 17) (by decide +kernel), List.mem_of_getElem? (i := 452) (by decide +kernel), List.mem_of_getElem? (i := 453) (by decide +kernel)⟩
theorem lw_p1 : lw_okq (⟨"WarmFloor$Habits", "goesOn", "(I)Z"⟩, 9) := ⟨⟨by decide +kernel, by decide +kernel⟩, List.mem_of_getElem? (i := 44) (by decide +kernel), List.mem_of_getElem? (i := 464) (by decide +kernel), List.mem_of_getElem? (i := 465) (by decide +kernel)⟩
theorem lw_p2 : lw_okq (⟨"WarmFloor$Habits", "takesLetter", "(I)Z"⟩, 9) := ⟨⟨by decide +kernel, by decide +kernel⟩, List.mem_of_getElem? (i := 44) (by decide +kernel), List.mem_of_getElem? (i := 468) (by decide +kernel), List.mem_of_getElem? (i := 469) (by decide +kernel)⟩
theorem lw_p3 : lw_okq (⟨"WarmFloor$Habits", "takesNumber", "(I)Z"⟩, 9) := ⟨⟨by decide +kernel, by decide +kernel⟩, List.mem_of_getElem? (i := 44) (by decide +kernel), List.mem_of_getElem? (i := 472) (by decide +kernel), List.mem_of_getElem? (i := 473) (by decide +kernel)⟩
theorem lw_p4 : lw_okq (⟨"WarmFloor$Habits", "takesDial", "(I)Z"⟩, 9) := ⟨⟨by decide +kernel, by decide +kernel⟩, List.mem_of_getElem? (i := 44) (by decide +kernel), List.mem_of_getElem? (i := 476) (by decide +kernel), List.mem_of_getElem? (i := 477) (by decide +kernel)⟩
theorem lw_p5 : lw_okq (⟨"WarmFloor$Habits", "takesSign", "(I)Z"⟩, 9) := ⟨⟨by decide +kernel, by decide +kernel⟩, List.mem_of_getElem? (i := 44) (by decide +kernel), List.mem_of_getElem? (i := 480) (by decide +kernel), List.mem_of_getElem? (i := 481) (by decide +kernel)⟩
theorem lw_p6 : lw_okq (⟨"WarmFloor$Habits", "takesEnd", "(I)Z"⟩, 9) := ⟨⟨by decide +kernel, by decide +kernel⟩, List.mem_of_getElem? (i := 44) (by decide +kernel), List.mem_of_getElem? (i := 484) (by decide +kernel), List.mem_of_getElem? (i := 485) (by decide +kernel)⟩
theorem lw_p7 : lw_okq (⟨"WarmFloor", "isDial", "(I)Z"⟩, 7) := ⟨⟨by decide +kernel, by decide +kernel⟩, List.mem_of_getElem? (i := 17) (by decide +kernel), List.mem_of_getElem? (i := 515) (by decide +kernel), List.mem_of_getElem? (i := 516) (by decide +kernel)⟩
theorem lw_p8 : lw_okq (⟨"WarmFloor", "exchange", "([III)I"⟩, 7) := ⟨⟨by decide +kernel, by decide +kernel⟩, List.mem_of_getElem? (i := 17) (by decide +kernel), List.mem_of_getElem? (i := 519) (by decide +kernel), List.mem_of_getElem? (i := 520) (by decide +kernel)⟩
theorem lw_p9 : lw_okq (⟨"WarmFloor", "playedToday", "()LWarmFloor$Day;"⟩, 7) := ⟨⟨by decide +kernel, by decide +kernel⟩, List.mem_of_getElem? (i := 17) (by decide +kernel), List.mem_of_getElem? (i := 528) (by decide +kernel), List.mem_of_getElem? (i := 529) (by decide +kernel)⟩
theorem lw_p10 : lw_okq (⟨"WarmFloor$Day", "letPersonsAct", "(I)V"⟩, 16) := ⟨⟨by decide +kernel, by decide +kernel⟩, List.mem_of_getElem? (i := 193) (by decide +kernel), List.mem_of_getElem? (i := 553) (by decide +kernel), List.mem_of_getElem? (i := 554) (by decide +kernel)⟩
theorem lw_p11 : lw_okq (⟨"WarmFloor$Day", "doFirstThatFits", "(II)Z"⟩, 16) := ⟨⟨by decide +kernel, by decide +kernel⟩, List.mem_of_getElem? (i := 193) (by decide +kernel), List.mem_of_getElem? (i := 558) (by decide +kernel), List.mem_of_getElem? (i := 559) (by decide +kernel)⟩
theorem lw_p12 : lw_okq (⟨"WarmFloor$Day", "isAbsent", "(I)Z"⟩, 16) := ⟨⟨by decide +kernel, by decide +kernel⟩, List.mem_of_getElem? (i := 193) (by decide +kernel), List.mem_of_getElem? (i := 562) (by decide +kernel), List.mem_of_getElem? (i := 563) (by decide +kernel)⟩
theorem lw_p13 : lw_okq (⟨"WarmFloor$Day", "press", "(IIZ)Z"⟩, 16) := ⟨⟨by decide +kernel, by decide +kernel⟩, List.mem_of_getElem? (i := 193) (by decide +kernel), List.mem_of_getElem? (i := 566) (by decide +kernel), List.mem_of_getElem? (i := 567) (by decide +kernel)⟩
theorem lw_p14 : lw_okq (⟨"WarmFloor$Day", "flowBetweenCells", "(I)V"⟩, 16) := ⟨⟨by decide +kernel, by decide +kernel⟩, List.mem_of_getElem? (i := 193) (by decide +kernel), List.mem_of_getElem? (i := 570) (by decide +kernel), List.mem_of_getElem? (i := 571) (by decide +kernel)⟩
theorem lw_p15 : lw_okq (⟨"WarmFloor$Day", "flowBetween", "(IIII)V"⟩, 16) := ⟨⟨by decide +kernel, by decide +kernel⟩, List.mem_of_getElem? (i := 193) (by decide +kernel), List.mem_of_getElem? (i := 576) (by decide +kernel), List.mem_of_getElem? (i := 577) (by decide +kernel)⟩
def lw_privs_1 : List (MethodName × Nat) := [(⟨"WarmFloor", "isPerson", "(I)Z"⟩, 7), (⟨"WarmFloor$Habits", "goesOn", "(I)Z"⟩, 9), (⟨"WarmFloor$Habits", "takesLetter", "(I)Z"⟩, 9), (⟨"WarmFloor$Habits", "takesNumber", "(I)Z"⟩, 9), (⟨"WarmFloor$Habits", "takesDial", "(I)Z"⟩, 9), (⟨"WarmFloor$Habits", "takesSign", "(I)Z"⟩, 9), (⟨"WarmFloor$Habits", "takesEnd", "(I)Z"⟩, 9), (⟨"WarmFloor", "isDial", "(I)Z"⟩, 7), (⟨"WarmFloor", "exchange", "([III)I"⟩, 7), (⟨"WarmFloor", "playedToday", "()LWarmFloor$Day;"⟩, 7), (⟨"WarmFloor$Day", "letPersonsAct", "(I)V"⟩, 16), (⟨"WarmFloor$Day", "doFirstThatFits", "(II)Z"⟩, 16), (⟨"WarmFloor$Day", "isAbsent", "(I)Z"⟩, 16), (⟨"WarmFloor$Day", "press", "(IIZ)Z"⟩, 16), (⟨"WarmFloor$Day", "flowBetweenCells", "(I)V"⟩, 16), (⟨"WarmFloor$Day", "flowBetween", "(IIII)V"⟩, 16)]
theorem lw_r1 : ∀ q ∈ lw_privs_1, lw_okq q := List.forall_mem_cons.mpr ⟨lw_p0, List.forall_mem_cons.mpr ⟨lw_p1, List.forall_mem_cons.mpr ⟨lw_p2, List.forall_mem_cons.mpr ⟨lw_p3, List.forall_mem_cons.mpr ⟨lw_p4, List.forall_mem_cons.mpr ⟨lw_p5, List.forall_mem_cons.mpr ⟨lw_p6, List.forall_mem_cons.mpr ⟨lw_p7, List.forall_mem_cons.mpr ⟨lw_p8, List.forall_mem_cons.mpr ⟨lw_p9, List.forall_mem_cons.mpr ⟨lw_p10, List.forall_mem_cons.mpr ⟨lw_p11, List.forall_mem_cons.mpr ⟨lw_p12, List.forall_mem_cons.mpr ⟨lw_p13, List.forall_mem_cons.mpr ⟨lw_p14, List.forall_mem_cons.mpr ⟨lw_p15, fun _ h => absurd h List.not_mem_nil⟩⟩⟩⟩⟩⟩⟩⟩⟩⟩⟩⟩⟩⟩⟩⟩
theorem lw_p16 : lw_okq (⟨"WarmFloor$Day", "letDialsWork", "(I)V"⟩, 16) := ⟨⟨by decide +kernel, by decide +kernel⟩, List.mem_of_getElem? (i := 193) (by decide +kernel), List.mem_of_getElem? (i := 580) (by decide +kernel), List.mem_of_getElem? (i := 581) (by decide +kernel)⟩
theorem lw_p17 : lw_okq (⟨"WarmFloor$Day", "shutCells", "(I)I"⟩, 16) := ⟨⟨by decide +kernel, by decide +kernel⟩, List.mem_of_getElem? (i := 193) (by decide +kernel), List.mem_of_getElem? (i := 584) (by decide +kernel), List.mem_of_getElem? (i := 585) (by decide +kernel)⟩
theorem lw_p18 : lw_okq (⟨"WarmFloor$Day", "addGifts", "(III[I)V"⟩, 16) := ⟨⟨by decide +kernel, by decide +kernel⟩, List.mem_of_getElem? (i := 193) (by decide +kernel), List.mem_of_getElem? (i := 588) (by decide +kernel), List.mem_of_getElem? (i := 589) (by decide +kernel)⟩
theorem lw_p19 : lw_okq (⟨"WarmFloor$Day", "addGrilles", "(III[I)V"⟩, 16) := ⟨⟨by decide +kernel, by decide +kernel⟩, List.mem_of_getElem? (i := 193) (by decide +kernel), List.mem_of_getElem? (i := 592) (by decide +kernel), List.mem_of_getElem? (i := 593) (by decide +kernel)⟩
theorem lw_p20 : lw_okq (⟨"WarmFloor$Day", "costOf", "(II)I"⟩, 16) := ⟨⟨by decide +kernel, by decide +kernel⟩, List.mem_of_getElem? (i := 193) (by decide +kernel), List.mem_of_getElem? (i := 597) (by decide +kernel), List.mem_of_getElem? (i := 598) (by decide +kernel)⟩
theorem lw_p21 : lw_okq (⟨"WarmFloor$Day", "settle", "(I)V"⟩, 16) := ⟨⟨by decide +kernel, by decide +kernel⟩, List.mem_of_getElem? (i := 193) (by decide +kernel), List.mem_of_getElem? (i := 607) (by decide +kernel), List.mem_of_getElem? (i := 608) (by decide +kernel)⟩
theorem lw_p22 : lw_okq (⟨"WarmFloor$Day", "givePoints", "(I)V"⟩, 16) := ⟨⟨by decide +kernel, by decide +kernel⟩, List.mem_of_getElem? (i := 193) (by decide +kernel), List.mem_of_getElem? (i := 613) (by decide +kernel), List.mem_of_getElem? (i := 614) (by decide +kernel)⟩
theorem lw_p23 : lw_okq (⟨"WarmFloor", "refreshQuiet", "()V"⟩, 7) := ⟨⟨by decide +kernel, by decide +kernel⟩, List.mem_of_getElem? (i := 17) (by decide +kernel), List.mem_of_getElem? (i := 640) (by decide +kernel), List.mem_of_getElem? (i := 641) (by decide +kernel)⟩
theorem lw_p24 : lw_okq (⟨"WarmFloor", "ledBy", "(LWarmFloor$Day;I)I"⟩, 7) := ⟨⟨by decide +kernel, by decide +kernel⟩, List.mem_of_getElem? (i := 17) (by decide +kernel), List.mem_of_getElem? (i := 657) (by decide +kernel), List.mem_of_getElem? (i := 658) (by decide +kernel)⟩
theorem lw_p25 : lw_okq (⟨"WarmFloor", "ringOf", "(LWarmFloor$Day;)I"⟩, 7) := ⟨⟨by decide +kernel, by decide +kernel⟩, List.mem_of_getElem? (i := 17) (by decide +kernel), List.mem_of_getElem? (i := 665) (by decide +kernel), List.mem_of_getElem? (i := 666) (by decide +kernel)⟩
theorem lw_p26 : lw_okq (⟨"WarmFloor", "comesBack", "(LWarmFloor$Day;I)Z"⟩, 7) := ⟨⟨by decide +kernel, by decide +kernel⟩, List.mem_of_getElem? (i := 17) (by decide +kernel), List.mem_of_getElem? (i := 669) (by decide +kernel), List.mem_of_getElem? (i := 670) (by decide +kernel)⟩
theorem lw_p27 : lw_okq (⟨"WarmFloor", "refreshSettings", "(II)V"⟩, 7) := ⟨⟨by decide +kernel, by decide +kernel⟩, List.mem_of_getElem? (i := 17) (by decide +kernel), List.mem_of_getElem? (i := 681) (by decide +kernel), List.mem_of_getElem? (i := 682) (by decide +kernel)⟩
theorem lw_p28 : lw_okq (⟨"WarmFloor", "refreshSeating", "()V"⟩, 7) := ⟨⟨by decide +kernel, by decide +kernel⟩, List.mem_of_getElem? (i := 17) (by decide +kernel), List.mem_of_getElem? (i := 696) (by decide +kernel), List.mem_of_getElem? (i := 697) (by decide +kernel)⟩
theorem lw_p29 : lw_okq (⟨"WarmFloor$Seating", "swap", "(II)V"⟩, 5) := ⟨⟨by decide +kernel, by decide +kernel⟩, List.mem_of_getElem? (i := 333) (by decide +kernel), List.mem_of_getElem? (i := 714) (by decide +kernel), List.mem_of_getElem? (i := 715) (by decide +kernel)⟩
theorem lw_p30 : lw_okq (⟨"WarmFloor", "isReal", "(I)Z"⟩, 7) := ⟨⟨by decide +kernel, by decide +kernel⟩, List.mem_of_getElem? (i := 17) (by decide +kernel), List.mem_of_getElem? (i := 722) (by decide +kernel), List.mem_of_getElem? (i := 723) (by decide +kernel)⟩
theorem lw_p31 : lw_okq (⟨"WarmFloor", "arePresses", "(I)Z"⟩, 7) := ⟨⟨by decide +kernel, by decide +kernel⟩, List.mem_of_getElem? (i := 17) (by decide +kernel), List.mem_of_getElem? (i := 734) (by decide +kernel), List.mem_of_getElem? (i := 735) (by decide +kernel)⟩
def lw_privs_2 : List (MethodName × Nat) := [(⟨"WarmFloor$Day", "letDialsWork", "(I)V"⟩, 16), (⟨"WarmFloor$Day", "shutCells", "(I)I"⟩, 16), (⟨"WarmFloor$Day", "addGifts", "(III[I)V"⟩, 16), (⟨"WarmFloor$Day", "addGrilles", "(III[I)V"⟩, 16), (⟨"WarmFloor$Day", "costOf", "(II)I"⟩, 16), (⟨"WarmFloor$Day", "settle", "(I)V"⟩, 16), (⟨"WarmFloor$Day", "givePoints", "(I)V"⟩, 16), (⟨"WarmFloor", "refreshQuiet", "()V"⟩, 7), (⟨"WarmFloor", "ledBy", "(LWarmFloor$Day;I)I"⟩, 7), (⟨"WarmFloor", "ringOf", "(LWarmFloor$Day;)I"⟩, 7), (⟨"WarmFloor", "comesBack", "(LWarmFloor$Day;I)Z"⟩, 7), (⟨"WarmFloor", "refreshSettings", "(II)V"⟩, 7), (⟨"WarmFloor", "refreshSeating", "()V"⟩, 7), (⟨"WarmFloor$Seating", "swap", "(II)V"⟩, 5), (⟨"WarmFloor", "isReal", "(I)Z"⟩, 7), (⟨"WarmFloor", "arePresses", "(I)Z"⟩, 7)]
theorem lw_r2 : ∀ q ∈ lw_privs_2, lw_okq q := List.forall_mem_cons.mpr ⟨lw_p16, List.forall_mem_cons.mpr ⟨lw_p17, List.forall_mem_cons.mpr ⟨lw_p18, List.forall_mem_cons.mpr ⟨lw_p19, List.forall_mem_cons.mpr ⟨lw_p20, List.forall_mem_cons.mpr ⟨lw_p21, List.forall_mem_cons.mpr ⟨lw_p22, List.forall_mem_cons.mpr ⟨lw_p23, List.forall_mem_cons.mpr ⟨lw_p24, List.forall_mem_cons.mpr ⟨lw_p25, List.forall_mem_cons.mpr ⟨lw_p26, List.forall_mem_cons.mpr ⟨lw_p27, List.forall_mem_cons.mpr ⟨lw_p28, List.forall_mem_cons.mpr ⟨lw_p29, List.forall_mem_cons.mpr ⟨lw_p30, List.forall_mem_cons.mpr ⟨lw_p31, fun _ h => absurd h List.not_mem_nil⟩⟩⟩⟩⟩⟩⟩⟩⟩⟩⟩⟩⟩⟩⟩⟩
theorem lw_p32 : lw_okq (⟨"WarmFloor", "votedNumber", "(IIIII)I"⟩, 7) := ⟨⟨by decide +kernel, by decide +kernel⟩, List.mem_of_getElem? (i := 17) (by decide +kernel), List.mem_of_getElem? (i := 738) (by decide +kernel), List.mem_of_getElem? (i := 739) (by decide +kernel)⟩
theorem lw_p33 : lw_okq (⟨"WarmFloor", "middle", "(II)I"⟩, 7) := ⟨⟨by decide +kernel, by decide +kernel⟩, List.mem_of_getElem? (i := 17) (by decide +kernel), List.mem_of_getElem? (i := 745) (by decide +kernel), List.mem_of_getElem? (i := 746) (by decide +kernel)⟩
theorem lw_p34 : lw_okq (⟨"WarmFloor", "pointsByNumber", "(III)I"⟩, 7) := ⟨⟨by decide +kernel, by decide +kernel⟩, List.mem_of_getElem? (i := 17) (by decide +kernel), List.mem_of_getElem? (i := 754) (by decide +kernel), List.mem_of_getElem? (i := 755) (by decide +kernel)⟩
theorem lw_p35 : lw_okq (⟨"WarmFloor", "arePairs", "(I)Z"⟩, 7) := ⟨⟨by decide +kernel, by decide +kernel⟩, List.mem_of_getElem? (i := 17) (by decide +kernel), List.mem_of_getElem? (i := 768) (by decide +kernel), List.mem_of_getElem? (i := 769) (by decide +kernel)⟩
theorem lw_p36 : lw_okq (⟨"WarmFloorModel", "met", "(I)I"⟩, 49) := ⟨⟨by decide +kernel, by decide +kernel⟩, List.mem_of_getElem? (i := 885) (by decide +kernel), List.mem_of_getElem? (i := 1051) (by decide +kernel), List.mem_of_getElem? (i := 1052) (by decide +kernel)⟩
theorem lw_p37 : lw_okq (⟨"WarmFloorModel", "lacks", "(III)I"⟩, 49) := ⟨⟨by decide +kernel, by decide +kernel⟩, List.mem_of_getElem? (i := 885) (by decide +kernel), List.mem_of_getElem? (i := 1063) (by decide +kernel), List.mem_of_getElem? (i := 1064) (by decide +kernel)⟩
theorem lw_p38 : lw_okq (⟨"WarmFloorModel", "item", "(II)I"⟩, 49) := ⟨⟨by decide +kernel, by decide +kernel⟩, List.mem_of_getElem? (i := 885) (by decide +kernel), List.mem_of_getElem? (i := 1095) (by decide +kernel), List.mem_of_getElem? (i := 1096) (by decide +kernel)⟩
theorem lw_p39 : lw_okq (⟨"WarmFloorModel", "isPerson", "(I)Z"⟩, 49) := ⟨⟨by decide +kernel, by decide +kernel⟩, List.mem_of_getElem? (i := 885) (by decide +kernel), List.mem_of_getElem? (i := 1126) (by decide +kernel), List.mem_of_getElem? (i := 1127) (by decide +kernel)⟩
theorem lw_p40 : lw_okq (⟨"WarmFloorModel", "reads", "(I)I"⟩, 49) := ⟨⟨by decide +kernel, by decide +kernel⟩, List.mem_of_getElem? (i := 885) (by decide +kernel), List.mem_of_getElem? (i := 1143) (by decide +kernel), List.mem_of_getElem? (i := 1144) (by decide +kernel)⟩
theorem lw_p41 : lw_okq (⟨"WarmFloorModel", "readsHabit", "(I)Z"⟩, 49) := ⟨⟨by decide +kernel, by decide +kernel⟩, List.mem_of_getElem? (i := 885) (by decide +kernel), List.mem_of_getElem? (i := 1147) (by decide +kernel), List.mem_of_getElem? (i := 1148) (by decide +kernel)⟩
theorem lw_p42 : lw_okq (⟨"WarmFloorModel", "here", "(I)I"⟩, 49) := ⟨⟨by decide +kernel, by decide +kernel⟩, List.mem_of_getElem? (i := 885) (by decide +kernel), List.mem_of_getElem? (i := 1151) (by decide +kernel), List.mem_of_getElem? (i := 1152) (by decide +kernel)⟩
theorem lw_p43 : lw_okq (⟨"WarmFloorModel", "isDial", "(I)Z"⟩, 49) := ⟨⟨by decide +kernel, by decide +kernel⟩, List.mem_of_getElem? (i := 885) (by decide +kernel), List.mem_of_getElem? (i := 1171) (by decide +kernel), List.mem_of_getElem? (i := 1172) (by decide +kernel)⟩
theorem lw_p44 : lw_okq (⟨"WarmFloorModel", "runs", "()V"⟩, 49) := ⟨⟨by decide +kernel, by decide +kernel⟩, List.mem_of_getElem? (i := 885) (by decide +kernel), List.mem_of_getElem? (i := 1181) (by decide +kernel), List.mem_of_getElem? (i := 1182) (by decide +kernel)⟩
theorem lw_p45 : lw_okq (⟨"WarmFloorModel", "steps", "(I)V"⟩, 49) := ⟨⟨by decide +kernel, by decide +kernel⟩, List.mem_of_getElem? (i := 885) (by decide +kernel), List.mem_of_getElem? (i := 1185) (by decide +kernel), List.mem_of_getElem? (i := 1186) (by decide +kernel)⟩
theorem lw_p46 : lw_okq (⟨"WarmFloorModel", "acts", "(II)Z"⟩, 49) := ⟨⟨by decide +kernel, by decide +kernel⟩, List.mem_of_getElem? (i := 885) (by decide +kernel), List.mem_of_getElem? (i := 1189) (by decide +kernel), List.mem_of_getElem? (i := 1190) (by decide +kernel)⟩
theorem lw_p47 : lw_okq (⟨"WarmFloorModel", "isTried", "(II)Z"⟩, 49) := ⟨⟨by decide +kernel, by decide +kernel⟩, List.mem_of_getElem? (i := 885) (by decide +kernel), List.mem_of_getElem? (i := 1193) (by decide +kernel), List.mem_of_getElem? (i := 1194) (by decide +kernel)⟩
def lw_privs_3 : List (MethodName × Nat) := [(⟨"WarmFloor", "votedNumber", "(IIIII)I"⟩, 7), (⟨"WarmFloor", "middle", "(II)I"⟩, 7), (⟨"WarmFloor", "pointsByNumber", "(III)I"⟩, 7), (⟨"WarmFloor", "arePairs", "(I)Z"⟩, 7), (⟨"WarmFloorModel", "met", "(I)I"⟩, 49), (⟨"WarmFloorModel", "lacks", "(III)I"⟩, 49), (⟨"WarmFloorModel", "item", "(II)I"⟩, 49), (⟨"WarmFloorModel", "isPerson", "(I)Z"⟩, 49), (⟨"WarmFloorModel", "reads", "(I)I"⟩, 49), (⟨"WarmFloorModel", "readsHabit", "(I)Z"⟩, 49), (⟨"WarmFloorModel", "here", "(I)I"⟩, 49), (⟨"WarmFloorModel", "isDial", "(I)Z"⟩, 49), (⟨"WarmFloorModel", "runs", "()V"⟩, 49), (⟨"WarmFloorModel", "steps", "(I)V"⟩, 49), (⟨"WarmFloorModel", "acts", "(II)Z"⟩, 49), (⟨"WarmFloorModel", "isTried", "(II)Z"⟩, 49)]
theorem lw_r3 : ∀ q ∈ lw_privs_3, lw_okq q := List.forall_mem_cons.mpr ⟨lw_p32, List.forall_mem_cons.mpr ⟨lw_p33, List.forall_mem_cons.mpr ⟨lw_p34, List.forall_mem_cons.mpr ⟨lw_p35, List.forall_mem_cons.mpr ⟨lw_p36, List.forall_mem_cons.mpr ⟨lw_p37, List.forall_mem_cons.mpr ⟨lw_p38, List.forall_mem_cons.mpr ⟨lw_p39, List.forall_mem_cons.mpr ⟨lw_p40, List.forall_mem_cons.mpr ⟨lw_p41, List.forall_mem_cons.mpr ⟨lw_p42, List.forall_mem_cons.mpr ⟨lw_p43, List.forall_mem_cons.mpr ⟨lw_p44, List.forall_mem_cons.mpr ⟨lw_p45, List.forall_mem_cons.mpr ⟨lw_p46, List.forall_mem_cons.mpr ⟨lw_p47, fun _ h => absurd h List.not_mem_nil⟩⟩⟩⟩⟩⟩⟩⟩⟩⟩⟩⟩⟩⟩⟩⟩
theorem lw_p48 : lw_okq (⟨"WarmFloorModel", "flows", "(III)V"⟩, 49) := ⟨⟨by decide +kernel, by decide +kernel⟩, List.mem_of_getElem? (i := 885) (by decide +kernel), List.mem_of_getElem? (i := 1197) (by decide +kernel), List.mem_of_getElem? (i := 1198) (by decide +kernel)⟩
theorem lw_p49 : lw_okq (⟨"WarmFloorModel", "isThere", "(II)Z"⟩, 49) := ⟨⟨by decide +kernel, by decide +kernel⟩, List.mem_of_getElem? (i := 885) (by decide +kernel), List.mem_of_getElem? (i := 1201) (by decide +kernel), List.mem_of_getElem? (i := 1202) (by decide +kernel)⟩
theorem lw_p50 : lw_okq (⟨"WarmFloorModel", "works", "(II)V"⟩, 49) := ⟨⟨by decide +kernel, by decide +kernel⟩, List.mem_of_getElem? (i := 885) (by decide +kernel), List.mem_of_getElem? (i := 1205) (by decide +kernel), List.mem_of_getElem? (i := 1206) (by decide +kernel)⟩
theorem lw_p51 : lw_okq (⟨"WarmFloorModel", "isShut", "(II)Z"⟩, 49) := ⟨⟨by decide +kernel, by decide +kernel⟩, List.mem_of_getElem? (i := 885) (by decide +kernel), List.mem_of_getElem? (i := 1209) (by decide +kernel), List.mem_of_getElem? (i := 1210) (by decide +kernel)⟩
theorem lw_p52 : lw_okq (⟨"WarmFloorModel", "gives", "(IIII)V"⟩, 49) := ⟨⟨by decide +kernel, by decide +kernel⟩, List.mem_of_getElem? (i := 885) (by decide +kernel), List.mem_of_getElem? (i := 1213) (by decide +kernel), List.mem_of_getElem? (i := 1214) (by decide +kernel)⟩
theorem lw_p53 : lw_okq (⟨"WarmFloorModel", "isFight", "()Z"⟩, 49) := ⟨⟨by decide +kernel, by decide +kernel⟩, List.mem_of_getElem? (i := 885) (by decide +kernel), List.mem_of_getElem? (i := 1217) (by decide +kernel), List.mem_of_getElem? (i := 1218) (by decide +kernel)⟩
theorem lw_p54 : lw_okq (⟨"WarmFloorModel", "allOf", "(II)I"⟩, 49) := ⟨⟨by decide +kernel, by decide +kernel⟩, List.mem_of_getElem? (i := 885) (by decide +kernel), List.mem_of_getElem? (i := 1237) (by decide +kernel), List.mem_of_getElem? (i := 1238) (by decide +kernel)⟩
theorem lw_p55 : lw_okq (⟨"WarmFloorModel", "pointsNow", "()I"⟩, 49) := ⟨⟨by decide +kernel, by decide +kernel⟩, List.mem_of_getElem? (i := 885) (by decide +kernel), List.mem_of_getElem? (i := 1245) (by decide +kernel), List.mem_of_getElem? (i := 1246) (by decide +kernel)⟩
theorem lw_p56 : lw_okq (⟨"WarmFloorModel", "areTwo", "(II)Z"⟩, 49) := ⟨⟨by decide +kernel, by decide +kernel⟩, List.mem_of_getElem? (i := 885) (by decide +kernel), List.mem_of_getElem? (i := 1253) (by decide +kernel), List.mem_of_getElem? (i := 1254) (by decide +kernel)⟩
theorem lw_p57 : lw_okq (⟨"WarmFloorModel", "findLeads", "(I)V"⟩, 49) := ⟨⟨by decide +kernel, by decide +kernel⟩, List.mem_of_getElem? (i := 885) (by decide +kernel), List.mem_of_getElem? (i := 1265) (by decide +kernel), List.mem_of_getElem? (i := 1266) (by decide +kernel)⟩
theorem lw_p58 : lw_okq (⟨"WarmFloorModel", "ringNow", "()I"⟩, 49) := ⟨⟨by decide +kernel, by decide +kernel⟩, List.mem_of_getElem? (i := 885) (by decide +kernel), List.mem_of_getElem? (i := 1273) (by decide +kernel), List.mem_of_getElem? (i := 1274) (by decide +kernel)⟩
theorem lw_p59 : lw_okq (⟨"WarmFloorModel", "realDial", "(I)I"⟩, 49) := ⟨⟨by decide +kernel, by decide +kernel⟩, List.mem_of_getElem? (i := 885) (by decide +kernel), List.mem_of_getElem? (i := 1282) (by decide +kernel), List.mem_of_getElem? (i := 1283) (by decide +kernel)⟩
theorem lw_p60 : lw_okq (⟨"WarmFloorModel", "seatsBy", "(II)Z"⟩, 49) := ⟨⟨by decide +kernel, by decide +kernel⟩, List.mem_of_getElem? (i := 885) (by decide +kernel), List.mem_of_getElem? (i := 1291) (by decide +kernel), List.mem_of_getElem? (i := 1292) (by decide +kernel)⟩
theorem lw_p61 : lw_okq (⟨"WarmFloorModel", "isReal", "(I)Z"⟩, 49) := ⟨⟨by decide +kernel, by decide +kernel⟩, List.mem_of_getElem? (i := 885) (by decide +kernel), List.mem_of_getElem? (i := 1299) (by decide +kernel), List.mem_of_getElem? (i := 1300) (by decide +kernel)⟩
theorem lw_p62 : lw_okq (⟨"WarmFloorModel", "noVote", "(I)I"⟩, 49) := ⟨⟨by decide +kernel, by decide +kernel⟩, List.mem_of_getElem? (i := 885) (by decide +kernel), List.mem_of_getElem? (i := 1311) (by decide +kernel), List.mem_of_getElem? (i := 1312) (by decide +kernel)⟩
theorem lw_p63 : lw_okq (⟨"WarmFloorModel", "numberBy", "(II)I"⟩, 49) := ⟨⟨by decide +kernel, by decide +kernel⟩, List.mem_of_getElem? (i := 885) (by decide +kernel), List.mem_of_getElem? (i := 1315) (by decide +kernel), List.mem_of_getElem? (i := 1316) (by decide +kernel)⟩
def lw_privs_4 : List (MethodName × Nat) := [(⟨"WarmFloorModel", "flows", "(III)V"⟩, 49), (⟨"WarmFloorModel", "isThere", "(II)Z"⟩, 49), (⟨"WarmFloorModel", "works", "(II)V"⟩, 49), (⟨"WarmFloorModel", "isShut", "(II)Z"⟩, 49), (⟨"WarmFloorModel", "gives", "(IIII)V"⟩, 49), (⟨"WarmFloorModel", "isFight", "()Z"⟩, 49), (⟨"WarmFloorModel", "allOf", "(II)I"⟩, 49), (⟨"WarmFloorModel", "pointsNow", "()I"⟩, 49), (⟨"WarmFloorModel", "areTwo", "(II)Z"⟩, 49), (⟨"WarmFloorModel", "findLeads", "(I)V"⟩, 49), (⟨"WarmFloorModel", "ringNow", "()I"⟩, 49), (⟨"WarmFloorModel", "realDial", "(I)I"⟩, 49), (⟨"WarmFloorModel", "seatsBy", "(II)Z"⟩, 49), (⟨"WarmFloorModel", "isReal", "(I)Z"⟩, 49), (⟨"WarmFloorModel", "noVote", "(I)I"⟩, 49), (⟨"WarmFloorModel", "numberBy", "(II)I"⟩, 49)]
theorem lw_r4 : ∀ q ∈ lw_privs_4, lw_okq q := List.forall_mem_cons.mpr ⟨lw_p48, List.forall_mem_cons.mpr ⟨lw_p49, List.forall_mem_cons.mpr ⟨lw_p50, List.forall_mem_cons.mpr ⟨lw_p51, List.forall_mem_cons.mpr ⟨lw_p52, List.forall_mem_cons.mpr ⟨lw_p53, List.forall_mem_cons.mpr ⟨lw_p54, List.forall_mem_cons.mpr ⟨lw_p55, List.forall_mem_cons.mpr ⟨lw_p56, List.forall_mem_cons.mpr ⟨lw_p57, List.forall_mem_cons.mpr ⟨lw_p58, List.forall_mem_cons.mpr ⟨lw_p59, List.forall_mem_cons.mpr ⟨lw_p60, List.forall_mem_cons.mpr ⟨lw_p61, List.forall_mem_cons.mpr ⟨lw_p62, List.forall_mem_cons.mpr ⟨lw_p63, fun _ h => absurd h List.not_mem_nil⟩⟩⟩⟩⟩⟩⟩⟩⟩⟩⟩⟩⟩⟩⟩⟩
theorem lw_p64 : lw_okq (⟨"WarmFloorModel", "pressed", "(I)I"⟩, 49) := ⟨⟨by decide +kernel, by decide +kernel⟩, List.mem_of_getElem? (i := 885) (by decide +kernel), List.mem_of_getElem? (i := 1319) (by decide +kernel), List.mem_of_getElem? (i := 1320) (by decide +kernel)⟩
def lw_privs_5 : List (MethodName × Nat) := [(⟨"WarmFloorModel", "pressed", "(I)I"⟩, 49)]
theorem lw_r5 : ∀ q ∈ lw_privs_5, lw_okq q := List.forall_mem_cons.mpr ⟨lw_p64, fun _ h => absurd h List.not_mem_nil⟩
def lw_privs : List (MethodName × Nat) := lw_privs_1 ++ (lw_privs_2 ++ (lw_privs_3 ++ (lw_privs_4 ++ (lw_privs_5))))
def lw_tbl : List Cond := k2_sels lw_privs ++ tables_1
theorem lw_privs_ok : ∀ q ∈ lw_privs, lw_okq q := by
  show ∀ q ∈ lw_privs_1 ++ (lw_privs_2 ++ (lw_privs_3 ++ (lw_privs_4 ++ (lw_privs_5)))), lw_okq q
  exact List.forall_mem_append.mpr ⟨lw_r1, List.forall_mem_append.mpr ⟨lw_r2, List.forall_mem_append.mpr ⟨lw_r3, List.forall_mem_append.mpr ⟨lw_r4, lw_r5⟩⟩⟩⟩
end
section
def RX0 : String := "WarmFloor$Day"
def TX0 : u_T := fun k => match k with
  | 0 => ("WarmFloor$Day", "plan", "LWarmFloor$Plan;", true)
  | 1 => ("WarmFloor$Day", "warm", "[I", true)
  | 2 => ("WarmFloor$Day", "stone", "[I", true)
  | 3 => ("WarmFloor$Day", "numbers", "[I", true)
  | 4 => ("WarmFloor$Day", "acted", "[I", true)
  | 5 => ("WarmFloor$Day", "points", "[I", true)
  | 6 => ("WarmFloor$Day", "actsOf", "[I", true)
  | 7 => ("WarmFloor$Day", "pointsOf", "[I", true)
  | 8 => ("WarmFloor$Day", "cost", "I", false)
  | 9 => ("WarmFloor$Day", "together", "I", false)
  | 10 => ("WarmFloor$Day", "madeAt", "I", false)
  | 11 => ("WarmFloor$Day", "floor", "LWarmFloor$Floor;", true)
  | 12 => ("WarmFloor$Day", "now", "[I", true)
  | 13 => ("WarmFloor$Day", "falsePresses", "[I", true)
  | 14 => ("WarmFloor$Day", "given", "[I", true)
  | _ => ("WarmFloor$Day", "givenToo", "[I", true)
def tyX0 : Nat → FieldType := fun k => match k with
  | 0 => .object "WarmFloor$Plan"
  | 1 => .array .int
  | 2 => .array .int
  | 3 => .array .int
  | 4 => .array .int
  | 5 => .array .int
  | 6 => .array .int
  | 7 => .array .int
  | 8 => .int
  | 9 => .int
  | 10 => .int
  | 11 => .object "WarmFloor$Floor"
  | 12 => .array .int
  | 13 => .array .int
  | 14 => .array .int
  | _ => .array .int
theorem nmX0 : ∀ a, a < 16 → ∀ b, b < 16 → a ≠ b → (TX0 a).2.1 ≠ (TX0 b).2.1 := by decide +kernel
theorem tyX0_ok : ∀ k, k < 16 → parseFieldDescriptor (TX0 k).2.2.1 = some (tyX0 k) := by decide +kernel
abbrev cX0_init : ByteArray := prog_2_method_1_code
def yX0_init : MethodName := ⟨RX0, "<init>", "(LWarmFloor$Floor;)V"⟩
abbrev cX0_play : ByteArray := prog_2_method_2_code
def yX0_play : MethodName := ⟨RX0, "play", "()V"⟩
abbrev cX0_begin : ByteArray := prog_2_method_3_code
def yX0_begin : MethodName := ⟨RX0, "begin", "()V"⟩
abbrev cX0_playSteps : ByteArray := prog_2_method_4_code
def yX0_playSteps : MethodName := ⟨RX0, "playSteps", "(II)V"⟩
abbrev cX0_letPersonsAct : ByteArray := prog_2_method_5_code
def yX0_letPersonsAct : MethodName := ⟨RX0, "letPersonsAct", "(I)V"⟩
abbrev cX0_doFirstThatFits : ByteArray := prog_2_method_6_code
def yX0_doFirstThatFits : MethodName := ⟨RX0, "doFirstThatFits", "(II)Z"⟩
abbrev cX0_press : ByteArray := prog_2_method_7_code
def yX0_press : MethodName := ⟨RX0, "press", "(IIZ)Z"⟩
abbrev cX0_isAbsent : ByteArray := prog_2_method_8_code
def yX0_isAbsent : MethodName := ⟨RX0, "isAbsent", "(I)Z"⟩
abbrev cX0_flowBetweenCells : ByteArray := prog_2_method_9_code
def yX0_flowBetweenCells : MethodName := ⟨RX0, "flowBetweenCells", "(I)V"⟩
abbrev cX0_flowBetween : ByteArray := prog_2_method_10_code
def yX0_flowBetween : MethodName := ⟨RX0, "flowBetween", "(IIII)V"⟩
abbrev cX0_letDialsWork : ByteArray := prog_2_method_11_code
def yX0_letDialsWork : MethodName := ⟨RX0, "letDialsWork", "(I)V"⟩
abbrev cX0_shutCells : ByteArray := prog_2_method_12_code
def yX0_shutCells : MethodName := ⟨RX0, "shutCells", "(I)I"⟩
abbrev cX0_addGifts : ByteArray := prog_2_method_13_code
def yX0_addGifts : MethodName := ⟨RX0, "addGifts", "(III[I)V"⟩
abbrev cX0_addGrilles : ByteArray := prog_2_method_14_code
def yX0_addGrilles : MethodName := ⟨RX0, "addGrilles", "(III[I)V"⟩
abbrev cX0_costOf : ByteArray := prog_2_method_15_code
def yX0_costOf : MethodName := ⟨RX0, "costOf", "(II)I"⟩
abbrev cX0_settle : ByteArray := prog_2_method_16_code
def yX0_settle : MethodName := ⟨RX0, "settle", "(I)V"⟩
abbrev cX0_givePoints : ByteArray := prog_2_method_17_code
def yX0_givePoints : MethodName := ⟨RX0, "givePoints", "(I)V"⟩
abbrev cX0_isFight : ByteArray := prog_2_method_18_code
def yX0_isFight : MethodName := ⟨RX0, "isFight", "(III)Z"⟩
def RX1 : String := "WarmFloor$Floor"
def TX1 : u_T := fun k => match k with
  | 0 => ("WarmFloor$Floor", "warm", "[I", true)
  | 1 => ("WarmFloor$Floor", "stone", "[I", true)
  | 2 => ("WarmFloor$Floor", "setting", "[I", true)
  | 3 => ("WarmFloor$Floor", "wallsBeside", "I", false)
  | 4 => ("WarmFloor$Floor", "wallsBelow", "I", false)
  | 5 => ("WarmFloor$Floor", "persons", "I", false)
  | 6 => ("WarmFloor$Floor", "seat", "[I", true)
  | 7 => ("WarmFloor$Floor", "low", "[I", true)
  | 8 => ("WarmFloor$Floor", "high", "[I", true)
  | 9 => ("WarmFloor$Floor", "habits", "[LWarmFloor$Habits;", true)
  | 10 => ("WarmFloor$Floor", "dials", "I", false)
  | 11 => ("WarmFloor$Floor", "kind", "[I", true)
  | 12 => ("WarmFloor$Floor", "place", "[I", true)
  | 13 => ("WarmFloor$Floor", "start", "[I", true)
  | 14 => ("WarmFloor$Floor", "feeler", "[I", true)
  | 15 => ("WarmFloor$Floor", "grilles", "[I", true)
  | _ => ("WarmFloor$Floor", "changes", "I", false)
def tyX1 : Nat → FieldType := fun k => match k with
  | 0 => .array .int
  | 1 => .array .int
  | 2 => .array .int
  | 3 => .int
  | 4 => .int
  | 5 => .int
  | 6 => .array .int
  | 7 => .array .int
  | 8 => .array .int
  | 9 => .array (.object "WarmFloor$Habits")
  | 10 => .int
  | 11 => .array .int
  | 12 => .array .int
  | 13 => .array .int
  | 14 => .array .int
  | 15 => .array .int
  | _ => .int
theorem nmX1 : ∀ a, a < 17 → ∀ b, b < 17 → a ≠ b → (TX1 a).2.1 ≠ (TX1 b).2.1 := by decide +kernel
theorem tyX1_ok : ∀ k, k < 17 → parseFieldDescriptor (TX1 k).2.2.1 = some (tyX1 k) := by decide +kernel
abbrev cX1_init : ByteArray := prog_3_method_1_code
def yX1_init : MethodName := ⟨RX1, "<init>", "()V"⟩
abbrev cX1_putWallBeside : ByteArray := prog_3_method_2_code
def yX1_putWallBeside : MethodName := ⟨RX1, "putWallBeside", "(IZ)Z"⟩
abbrev cX1_putWallBelow : ByteArray := prog_3_method_3_code
def yX1_putWallBelow : MethodName := ⟨RX1, "putWallBelow", "(IZ)Z"⟩
abbrev cX1_habitBytes : ByteArray := prog_3_method_4_code
def yX1_habitBytes : MethodName := ⟨RX1, "habitBytes", "()I"⟩
abbrev cX1_realDialFrom : ByteArray := prog_3_method_5_code
def yX1_realDialFrom : MethodName := ⟨RX1, "realDialFrom", "(I)I"⟩
def RX2 : String := "WarmFloor$Habits"
def TX2 : u_T := fun k => match k with
  | 0 => ("WarmFloor$Habits", "length", "I", false)
  | 1 => ("WarmFloor$Habits", "parts", "I", false)
  | 2 => ("WarmFloor$Habits", "ifCold", "[Z", true)
  | 3 => ("WarmFloor$Habits", "least", "[I", true)
  | 4 => ("WarmFloor$Habits", "dial", "[I", true)
  | 5 => ("WarmFloor$Habits", "up", "[Z", true)
  | 6 => ("WarmFloor$Habits", "place", "I", false)
  | 7 => ("WarmFloor$Habits", "figures", "I", false)
  | _ => ("WarmFloor$Habits", "wrongByte", "I", false)
def tyX2 : Nat → FieldType := fun k => match k with
  | 0 => .int
  | 1 => .int
  | 2 => .array .boolean
  | 3 => .array .int
  | 4 => .array .int
  | 5 => .array .boolean
  | 6 => .int
  | 7 => .int
  | _ => .int
theorem nmX2 : ∀ a, a < 9 → ∀ b, b < 9 → a ≠ b → (TX2 a).2.1 ≠ (TX2 b).2.1 := by decide +kernel
theorem tyX2_ok : ∀ k, k < 9 → parseFieldDescriptor (TX2 k).2.2.1 = some (tyX2 k) := by decide +kernel
abbrev cX2_init : ByteArray := prog_4_method_1_code
def yX2_init : MethodName := ⟨RX2, "<init>", "()V"⟩
abbrev cX2_clear : ByteArray := prog_4_method_2_code
def yX2_clear : MethodName := ⟨RX2, "clear", "()V"⟩
abbrev cX2_add : ByteArray := prog_4_method_3_code
def yX2_add : MethodName := ⟨RX2, "add", "(I)V"⟩
abbrev cX2_faultPlace : ByteArray := prog_4_method_4_code
def yX2_faultPlace : MethodName := ⟨RX2, "faultPlace", "()I"⟩
abbrev cX2_goesOn : ByteArray := prog_4_method_5_code
def yX2_goesOn : MethodName := ⟨RX2, "goesOn", "(I)Z"⟩
abbrev cX2_takesLetter : ByteArray := prog_4_method_6_code
def yX2_takesLetter : MethodName := ⟨RX2, "takesLetter", "(I)Z"⟩
abbrev cX2_takesNumber : ByteArray := prog_4_method_7_code
def yX2_takesNumber : MethodName := ⟨RX2, "takesNumber", "(I)Z"⟩
abbrev cX2_takesDial : ByteArray := prog_4_method_8_code
def yX2_takesDial : MethodName := ⟨RX2, "takesDial", "(I)Z"⟩
abbrev cX2_takesSign : ByteArray := prog_4_method_9_code
def yX2_takesSign : MethodName := ⟨RX2, "takesSign", "(I)Z"⟩
abbrev cX2_takesEnd : ByteArray := prog_4_method_10_code
def yX2_takesEnd : MethodName := ⟨RX2, "takesEnd", "(I)Z"⟩
def RX3 : String := "WarmFloor$Plan"
def TX3 : u_T := fun k => match k with
  | 0 => ("WarmFloor$Plan", "seat", "[I", true)
  | 1 => ("WarmFloor$Plan", "start", "[I", true)
  | 2 => ("WarmFloor$Plan", "feeler", "[I", true)
  | 3 => ("WarmFloor$Plan", "still", "I", false)
  | _ => ("WarmFloor$Plan", "absent", "I", false)
def tyX3 : Nat → FieldType := fun k => match k with
  | 0 => .array .int
  | 1 => .array .int
  | 2 => .array .int
  | 3 => .int
  | _ => .int
theorem nmX3 : ∀ a, a < 5 → ∀ b, b < 5 → a ≠ b → (TX3 a).2.1 ≠ (TX3 b).2.1 := by decide +kernel
theorem tyX3_ok : ∀ k, k < 5 → parseFieldDescriptor (TX3 k).2.2.1 = some (tyX3 k) := by decide +kernel
abbrev cX3_init : ByteArray := prog_5_method_1_code
def yX3_init : MethodName := ⟨RX3, "<init>", "()V"⟩
abbrev cX3_follow : ByteArray := prog_5_method_2_code
def yX3_follow : MethodName := ⟨RX3, "follow", "(LWarmFloor$Floor;)V"⟩
def RX4 : String := "WarmFloor$Quiet"
def TX4 : u_T := fun k => match k with
  | 0 => ("WarmFloor$Quiet", "madeAt", "I", false)
  | 1 => ("WarmFloor$Quiet", "points", "[I", true)
  | _ => ("WarmFloor$Quiet", "acts", "[I", true)
def tyX4 : Nat → FieldType := fun k => match k with
  | 0 => .int
  | 1 => .array .int
  | _ => .array .int
theorem nmX4 : ∀ a, a < 3 → ∀ b, b < 3 → a ≠ b → (TX4 a).2.1 ≠ (TX4 b).2.1 := by decide +kernel
theorem tyX4_ok : ∀ k, k < 3 → parseFieldDescriptor (TX4 k).2.2.1 = some (tyX4 k) := by decide +kernel
abbrev cX4_init : ByteArray := prog_6_method_1_code
def yX4_init : MethodName := ⟨RX4, "<init>", "()V"⟩
def RX5 : String := "WarmFloor$Seating"
def TX5 : u_T := fun k => match k with
  | 0 => ("WarmFloor$Seating", "madeAt", "I", false)
  | 1 => ("WarmFloor$Seating", "points", "I", false)
  | 2 => ("WarmFloor$Seating", "order", "[I", true)
  | 3 => ("WarmFloor$Seating", "best", "[I", true)
  | _ => ("WarmFloor$Seating", "persons", "I", false)
def tyX5 : Nat → FieldType := fun k => match k with
  | 0 => .int
  | 1 => .int
  | 2 => .array .int
  | 3 => .array .int
  | _ => .int
theorem nmX5 : ∀ a, a < 5 → ∀ b, b < 5 → a ≠ b → (TX5 a).2.1 ≠ (TX5 b).2.1 := by decide +kernel
theorem tyX5_ok : ∀ k, k < 5 → parseFieldDescriptor (TX5 k).2.2.1 = some (tyX5 k) := by decide +kernel
abbrev cX5_init : ByteArray := prog_7_method_1_code
def yX5_init : MethodName := ⟨RX5, "<init>", "()V"⟩
abbrev cX5_begin : ByteArray := prog_7_method_2_code
def yX5_begin : MethodName := ⟨RX5, "begin", "(I)V"⟩
abbrev cX5_note : ByteArray := prog_7_method_3_code
def yX5_note : MethodName := ⟨RX5, "note", "(I)V"⟩
abbrev cX5_nextOrder : ByteArray := prog_7_method_4_code
def yX5_nextOrder : MethodName := ⟨RX5, "nextOrder", "()Z"⟩
abbrev cX5_swap : ByteArray := prog_7_method_5_code
def yX5_swap : MethodName := ⟨RX5, "swap", "(II)V"⟩
def RX6 : String := "WarmFloor$Settings"
def TX6 : u_T := fun k => match k with
  | 0 => ("WarmFloor$Settings", "madeAt", "I", false)
  | 1 => ("WarmFloor$Settings", "seconds", "I", false)
  | 2 => ("WarmFloor$Settings", "points", "[I", true)
  | _ => ("WarmFloor$Settings", "costs", "[I", true)
def tyX6 : Nat → FieldType := fun k => match k with
  | 0 => .int
  | 1 => .int
  | 2 => .array .int
  | _ => .array .int
theorem nmX6 : ∀ a, a < 4 → ∀ b, b < 4 → a ≠ b → (TX6 a).2.1 ≠ (TX6 b).2.1 := by decide +kernel
theorem tyX6_ok : ∀ k, k < 4 → parseFieldDescriptor (TX6 k).2.2.1 = some (tyX6 k) := by decide +kernel
abbrev cX6_init : ByteArray := prog_8_method_1_code
def yX6_init : MethodName := ⟨RX6, "<init>", "()V"⟩
abbrev cX6_bestWithin : ByteArray := prog_8_method_2_code
def yX6_bestWithin : MethodName := ⟨RX6, "bestWithin", "(I)I"⟩
def RX7 : String := "WarmFloor$Sheets"
def TX7 : u_T := fun k => match k with
  | 0 => ("WarmFloor$Sheets", "latest", "I", false)
  | 1 => ("WarmFloor$Sheets", "form", "[I", true)
  | 2 => ("WarmFloor$Sheets", "length", "[I", true)
  | _ => ("WarmFloor$Sheets", "items", "[I", true)
def tyX7 : Nat → FieldType := fun k => match k with
  | 0 => .int
  | 1 => .array .int
  | 2 => .array .int
  | _ => .array .int
theorem nmX7 : ∀ a, a < 4 → ∀ b, b < 4 → a ≠ b → (TX7 a).2.1 ≠ (TX7 b).2.1 := by decide +kernel
theorem tyX7_ok : ∀ k, k < 4 → parseFieldDescriptor (TX7 k).2.2.1 = some (tyX7 k) := by decide +kernel
abbrev cX7_init : ByteArray := prog_9_method_1_code
def yX7_init : MethodName := ⟨RX7, "<init>", "()V"⟩
abbrev cX7_isSheet : ByteArray := prog_9_method_2_code
def yX7_isSheet : MethodName := ⟨RX7, "isSheet", "(I)Z"⟩
abbrev cX7_isForm : ByteArray := prog_9_method_3_code
def yX7_isForm : MethodName := ⟨RX7, "isForm", "(I)Z"⟩
abbrev cX7_found : ByteArray := prog_9_method_4_code
def yX7_found : MethodName := ⟨RX7, "found", "(I)I"⟩
abbrev cX7_isLost : ByteArray := prog_9_method_5_code
def yX7_isLost : MethodName := ⟨RX7, "isLost", "(I)Z"⟩
abbrev cX7_size : ByteArray := prog_9_method_6_code
def yX7_size : MethodName := ⟨RX7, "size", "(I)I"⟩
abbrev cX7_item : ByteArray := prog_9_method_7_code
def yX7_item : MethodName := ⟨RX7, "item", "(II)I"⟩
abbrev cX7_put : ByteArray := prog_9_method_8_code
def yX7_put : MethodName := ⟨RX7, "put", "(III)V"⟩
abbrev cX7_renew : ByteArray := prog_9_method_9_code
def yX7_renew : MethodName := ⟨RX7, "renew", "(III)V"⟩
abbrev cX7_drop : ByteArray := prog_9_method_10_code
def yX7_drop : MethodName := ⟨RX7, "drop", "(I)I"⟩
abbrev cX7_findingAt : ByteArray := prog_9_method_11_code
def yX7_findingAt : MethodName := ⟨RX7, "findingAt", "(III)I"⟩
abbrev cX7_areAlike : ByteArray := prog_9_method_12_code
def yX7_areAlike : MethodName := ⟨RX7, "areAlike", "(II)Z"⟩
abbrev cX7_hasItems : ByteArray := prog_9_method_13_code
def yX7_hasItems : MethodName := ⟨RX7, "hasItems", "(III)Z"⟩
abbrev cX7_move : ByteArray := prog_9_method_14_code
def yX7_move : MethodName := ⟨RX7, "move", "(IIIII)V"⟩
def RX8 : String := "WarmFloor$Span"
def TX8 : u_T := fun k => match k with
  | 0 => ("WarmFloor$Span", "leastLow", "I", false)
  | 1 => ("WarmFloor$Span", "mostLow", "I", false)
  | 2 => ("WarmFloor$Span", "leastHigh", "I", false)
  | _ => ("WarmFloor$Span", "mostHigh", "I", false)
def tyX8 : Nat → FieldType := fun k => match k with
  | 0 => .int
  | 1 => .int
  | 2 => .int
  | _ => .int
theorem nmX8 : ∀ a, a < 4 → ∀ b, b < 4 → a ≠ b → (TX8 a).2.1 ≠ (TX8 b).2.1 := by decide +kernel
theorem tyX8_ok : ∀ k, k < 4 → parseFieldDescriptor (TX8 k).2.2.1 = some (tyX8 k) := by decide +kernel
abbrev cX8_init : ByteArray := prog_10_method_1_code
def yX8_init : MethodName := ⟨RX8, "<init>", "()V"⟩
abbrev cX8_learn : ByteArray := prog_10_method_2_code
def yX8_learn : MethodName := ⟨RX8, "learn", "(II)V"⟩
abbrev cX8_answer : ByteArray := prog_10_method_3_code
def yX8_answer : MethodName := ⟨RX8, "answer", "(I)I"⟩
def RX9 : String := "WarmFloor"
def TX9 : u_T := fun k => match k with
  | 0 => ("WarmFloor", "floor", "LWarmFloor$Floor;", true)
  | 1 => ("WarmFloor", "sheets", "LWarmFloor$Sheets;", true)
  | 2 => ("WarmFloor", "today", "LWarmFloor$Day;", true)
  | 3 => ("WarmFloor", "trial", "LWarmFloor$Day;", true)
  | 4 => ("WarmFloor", "quiet", "LWarmFloor$Quiet;", true)
  | 5 => ("WarmFloor", "settings", "LWarmFloor$Settings;", true)
  | _ => ("WarmFloor", "seating", "LWarmFloor$Seating;", true)
def tyX9 : Nat → FieldType := fun k => match k with
  | 0 => .object "WarmFloor$Floor"
  | 1 => .object "WarmFloor$Sheets"
  | 2 => .object "WarmFloor$Day"
  | 3 => .object "WarmFloor$Day"
  | 4 => .object "WarmFloor$Quiet"
  | 5 => .object "WarmFloor$Settings"
  | _ => .object "WarmFloor$Seating"
theorem nmX9 : ∀ a, a < 7 → ∀ b, b < 7 → a ≠ b → (TX9 a).2.1 ≠ (TX9 b).2.1 := by decide +kernel
theorem tyX9_ok : ∀ k, k < 7 → parseFieldDescriptor (TX9 k).2.2.1 = some (tyX9 k) := by decide +kernel
abbrev cX9_init : ByteArray := prog_1_method_1_code
def yX9_init : MethodName := ⟨RX9, "<init>", "()V"⟩
abbrev cX9_cell : ByteArray := prog_1_method_2_code
def yX9_cell : MethodName := ⟨RX9, "cell", "(III)I"⟩
abbrev cX9_read : ByteArray := prog_1_method_3_code
def yX9_read : MethodName := ⟨RX9, "read", "(II)I"⟩
abbrev cX9_wall : ByteArray := prog_1_method_4_code
def yX9_wall : MethodName := ⟨RX9, "wall", "(IIZ)I"⟩
abbrev cX9_set : ByteArray := prog_1_method_5_code
def yX9_set : MethodName := ⟨RX9, "set", "(II)I"⟩
abbrev cX9_person : ByteArray := prog_1_method_6_code
def yX9_person : MethodName := ⟨RX9, "person", "(III)I"⟩
abbrev cX9_seat : ByteArray := prog_1_method_7_code
def yX9_seat : MethodName := ⟨RX9, "seat", "(II)I"⟩
abbrev cX9_type : ByteArray := prog_1_method_8_code
def yX9_type : MethodName := ⟨RX9, "type", "(II)I"⟩
abbrev cX9_wipe : ByteArray := prog_1_method_9_code
def yX9_wipe : MethodName := ⟨RX9, "wipe", "(I)I"⟩
abbrev cX9_fault : ByteArray := prog_1_method_10_code
def yX9_fault : MethodName := ⟨RX9, "fault", "(I)I"⟩
abbrev cX9_dial : ByteArray := prog_1_method_11_code
def yX9_dial : MethodName := ⟨RX9, "dial", "(III)I"⟩
abbrev cX9_tune : ByteArray := prog_1_method_12_code
def yX9_tune : MethodName := ⟨RX9, "tune", "(III)I"⟩
abbrev cX9_warmth : ByteArray := prog_1_method_13_code
def yX9_warmth : MethodName := ⟨RX9, "warmth", "(III)I"⟩
abbrev cX9_number : ByteArray := prog_1_method_14_code
def yX9_number : MethodName := ⟨RX9, "number", "(II)I"⟩
abbrev cX9_did : ByteArray := prog_1_method_15_code
def yX9_did : MethodName := ⟨RX9, "did", "(III)I"⟩
abbrev cX9_all : ByteArray := prog_1_method_16_code
def yX9_all : MethodName := ⟨RX9, "all", "(II)I"⟩
abbrev cX9_run : ByteArray := prog_1_method_17_code
def yX9_run : MethodName := ⟨RX9, "run", "(I)I"⟩
abbrev cX9_harm : ByteArray := prog_1_method_18_code
def yX9_harm : MethodName := ⟨RX9, "harm", "(II)I"⟩
abbrev cX9_fight : ByteArray := prog_1_method_19_code
def yX9_fight : MethodName := ⟨RX9, "fight", "(II)I"⟩
abbrev cX9_leads : ByteArray := prog_1_method_20_code
def yX9_leads : MethodName := ⟨RX9, "leads", "(II)I"⟩
abbrev cX9_ring : ByteArray := prog_1_method_21_code
def yX9_ring : MethodName := ⟨RX9, "ring", "()I"⟩
abbrev cX9_best : ByteArray := prog_1_method_22_code
def yX9_best : MethodName := ⟨RX9, "best", "(II)I"⟩
abbrev cX9_seats : ByteArray := prog_1_method_23_code
def yX9_seats : MethodName := ⟨RX9, "seats", "(I)I"⟩
abbrev cX9_feel : ByteArray := prog_1_method_24_code
def yX9_feel : MethodName := ⟨RX9, "feel", "(I)I"⟩
abbrev cX9_worth : ByteArray := prog_1_method_25_code
def yX9_worth : MethodName := ⟨RX9, "worth", "(I)I"⟩
abbrev cX9_vote : ByteArray := prog_1_method_26_code
def yX9_vote : MethodName := ⟨RX9, "vote", "(III)I"⟩
abbrev cX9_gain : ByteArray := prog_1_method_27_code
def yX9_gain : MethodName := ⟨RX9, "gain", "(IIII)I"⟩
abbrev cX9_monday : ByteArray := prog_1_method_28_code
def yX9_monday : MethodName := ⟨RX9, "monday", "(IIII)I"⟩
abbrev cX9_span : ByteArray := prog_1_method_29_code
def yX9_span : MethodName := ⟨RX9, "span", "(II)I"⟩
abbrev cX9_sheet : ByteArray := prog_1_method_30_code
def yX9_sheet : MethodName := ⟨RX9, "sheet", "(III)I"⟩
abbrev cX9_lose : ByteArray := prog_1_method_31_code
def yX9_lose : MethodName := ⟨RX9, "lose", "(I)I"⟩
abbrev cX9_lay : ByteArray := prog_1_method_32_code
def yX9_lay : MethodName := ⟨RX9, "lay", "(IIII)I"⟩
abbrev cX9_get : ByteArray := prog_1_method_33_code
def yX9_get : MethodName := ⟨RX9, "get", "(III)I"⟩
abbrev cX9_copy : ByteArray := prog_1_method_34_code
def yX9_copy : MethodName := ⟨RX9, "copy", "(IIIII)I"⟩
abbrev cX9_write : ByteArray := prog_1_method_35_code
def yX9_write : MethodName := ⟨RX9, "write", "(II)I"⟩
abbrev cX9_count : ByteArray := prog_1_method_36_code
def yX9_count : MethodName := ⟨RX9, "count", "(I)I"⟩
abbrev cX9_digest : ByteArray := prog_1_method_37_code
def yX9_digest : MethodName := ⟨RX9, "digest", "()J"⟩
abbrev cX9_mixedRow : ByteArray := prog_1_method_38_code
def yX9_mixedRow : MethodName := ⟨RX9, "mixedRow", "(J[III)J"⟩
abbrev cX9_isWithin : ByteArray := prog_1_method_39_code
def yX9_isWithin : MethodName := ⟨RX9, "isWithin", "(III)Z"⟩
abbrev cX9_isCell : ByteArray := prog_1_method_40_code
def yX9_isCell : MethodName := ⟨RX9, "isCell", "(I)Z"⟩
abbrev cX9_isLastInRow : ByteArray := prog_1_method_41_code
def yX9_isLastInRow : MethodName := ⟨RX9, "isLastInRow", "(I)Z"⟩
abbrev cX9_isStep : ByteArray := prog_1_method_42_code
def yX9_isStep : MethodName := ⟨RX9, "isStep", "(I)Z"⟩
abbrev cX9_isNumber : ByteArray := prog_1_method_43_code
def yX9_isNumber : MethodName := ⟨RX9, "isNumber", "(II)Z"⟩
abbrev cX9_triedNumber : ByteArray := prog_1_method_44_code
def yX9_triedNumber : MethodName := ⟨RX9, "triedNumber", "(I)I"⟩
abbrev cX9_isPerson : ByteArray := prog_1_method_45_code
def yX9_isPerson : MethodName := ⟨RX9, "isPerson", "(I)Z"⟩
abbrev cX9_isDial : ByteArray := prog_1_method_46_code
def yX9_isDial : MethodName := ⟨RX9, "isDial", "(I)Z"⟩
abbrev cX9_isReal : ByteArray := prog_1_method_47_code
def yX9_isReal : MethodName := ⟨RX9, "isReal", "(I)Z"⟩
abbrev cX9_exchange : ByteArray := prog_1_method_48_code
def yX9_exchange : MethodName := ⟨RX9, "exchange", "([III)I"⟩
abbrev cX9_playedToday : ByteArray := prog_1_method_49_code
def yX9_playedToday : MethodName := ⟨RX9, "playedToday", "()LWarmFloor$Day;"⟩
abbrev cX9_refreshQuiet : ByteArray := prog_1_method_50_code
def yX9_refreshQuiet : MethodName := ⟨RX9, "refreshQuiet", "()V"⟩
abbrev cX9_ledBy : ByteArray := prog_1_method_51_code
def yX9_ledBy : MethodName := ⟨RX9, "ledBy", "(LWarmFloor$Day;I)I"⟩
abbrev cX9_ringOf : ByteArray := prog_1_method_52_code
def yX9_ringOf : MethodName := ⟨RX9, "ringOf", "(LWarmFloor$Day;)I"⟩
abbrev cX9_comesBack : ByteArray := prog_1_method_53_code
def yX9_comesBack : MethodName := ⟨RX9, "comesBack", "(LWarmFloor$Day;I)Z"⟩
abbrev cX9_refreshSettings : ByteArray := prog_1_method_54_code
def yX9_refreshSettings : MethodName := ⟨RX9, "refreshSettings", "(II)V"⟩
abbrev cX9_refreshSeating : ByteArray := prog_1_method_55_code
def yX9_refreshSeating : MethodName := ⟨RX9, "refreshSeating", "()V"⟩
abbrev cX9_arePresses : ByteArray := prog_1_method_56_code
def yX9_arePresses : MethodName := ⟨RX9, "arePresses", "(I)Z"⟩
abbrev cX9_votedNumber : ByteArray := prog_1_method_57_code
def yX9_votedNumber : MethodName := ⟨RX9, "votedNumber", "(IIIII)I"⟩
abbrev cX9_middle : ByteArray := prog_1_method_58_code
def yX9_middle : MethodName := ⟨RX9, "middle", "(II)I"⟩
abbrev cX9_pointsByNumber : ByteArray := prog_1_method_59_code
def yX9_pointsByNumber : MethodName := ⟨RX9, "pointsByNumber", "(III)I"⟩
abbrev cX9_arePairs : ByteArray := prog_1_method_60_code
def yX9_arePairs : MethodName := ⟨RX9, "arePairs", "(I)Z"⟩
def RX10 : String := "WarmFloorModel"
def TX10 : u_T := fun k => match k with
  | 0 => ("WarmFloorModel", "forms", "[I", true)
  | 1 => ("WarmFloorModel", "sizes", "[I", true)
  | 2 => ("WarmFloorModel", "items", "[I", true)
  | 3 => ("WarmFloorModel", "moved", "[I", true)
  | 4 => ("WarmFloorModel", "latest", "I", false)
  | 5 => ("WarmFloorModel", "begins", "[I", true)
  | 6 => ("WarmFloorModel", "wallRight", "[Z", true)
  | 7 => ("WarmFloorModel", "wallBelow", "[Z", true)
  | 8 => ("WarmFloorModel", "sets", "[I", true)
  | 9 => ("WarmFloorModel", "persons", "I", false)
  | 10 => ("WarmFloorModel", "seatOf", "[I", true)
  | 11 => ("WarmFloorModel", "lows", "[I", true)
  | 12 => ("WarmFloorModel", "highs", "[I", true)
  | 13 => ("WarmFloorModel", "text", "[I", true)
  | 14 => ("WarmFloorModel", "typed", "[I", true)
  | 15 => ("WarmFloorModel", "at", "I", false)
  | 16 => ("WarmFloorModel", "habits", "[I", true)
  | 17 => ("WarmFloorModel", "habitSign", "[I", true)
  | 18 => ("WarmFloorModel", "habitBy", "[I", true)
  | 19 => ("WarmFloorModel", "habitDial", "[I", true)
  | 20 => ("WarmFloorModel", "habitMore", "[Z", true)
  | 21 => ("WarmFloorModel", "dials", "I", false)
  | 22 => ("WarmFloorModel", "kinds", "[I", true)
  | 23 => ("WarmFloorModel", "dialCell", "[I", true)
  | 24 => ("WarmFloorModel", "dialNumber", "[I", true)
  | 25 => ("WarmFloorModel", "feelers", "[I", true)
  | 26 => ("WarmFloorModel", "grilles", "[I", true)
  | 27 => ("WarmFloorModel", "warm", "[I", true)
  | 28 => ("WarmFloorModel", "stone", "[I", true)
  | 29 => ("WarmFloorModel", "numbers", "[I", true)
  | 30 => ("WarmFloorModel", "acted", "[Z", true)
  | 31 => ("WarmFloorModel", "points", "[I", true)
  | 32 => ("WarmFloorModel", "cost", "I", false)
  | 33 => ("WarmFloorModel", "now", "[I", true)
  | 34 => ("WarmFloorModel", "tries", "[I", true)
  | 35 => ("WarmFloorModel", "more", "[I", true)
  | 36 => ("WarmFloorModel", "gives", "[I", true)
  | 37 => ("WarmFloorModel", "idle", "I", false)
  | 38 => ("WarmFloorModel", "gone", "I", false)
  | 39 => ("WarmFloorModel", "late", "I", false)
  | 40 => ("WarmFloorModel", "lateFrom", "I", false)
  | 41 => ("WarmFloorModel", "fightA", "I", false)
  | 42 => ("WarmFloorModel", "fightB", "I", false)
  | 43 => ("WarmFloorModel", "fights", "I", false)
  | 44 => ("WarmFloorModel", "leads", "[I", true)
  | 45 => ("WarmFloorModel", "withHabits", "[I", true)
  | 46 => ("WarmFloorModel", "kept", "[I", true)
  | 47 => ("WarmFloorModel", "sits", "[I", true)
  | _ => ("WarmFloorModel", "presses", "[I", true)
def tyX10 : Nat → FieldType := fun k => match k with
  | 0 => .array .int
  | 1 => .array .int
  | 2 => .array .int
  | 3 => .array .int
  | 4 => .int
  | 5 => .array .int
  | 6 => .array .boolean
  | 7 => .array .boolean
  | 8 => .array .int
  | 9 => .int
  | 10 => .array .int
  | 11 => .array .int
  | 12 => .array .int
  | 13 => .array .int
  | 14 => .array .int
  | 15 => .int
  | 16 => .array .int
  | 17 => .array .int
  | 18 => .array .int
  | 19 => .array .int
  | 20 => .array .boolean
  | 21 => .int
  | 22 => .array .int
  | 23 => .array .int
  | 24 => .array .int
  | 25 => .array .int
  | 26 => .array .int
  | 27 => .array .int
  | 28 => .array .int
  | 29 => .array .int
  | 30 => .array .boolean
  | 31 => .array .int
  | 32 => .int
  | 33 => .array .int
  | 34 => .array .int
  | 35 => .array .int
  | 36 => .array .int
  | 37 => .int
  | 38 => .int
  | 39 => .int
  | 40 => .int
  | 41 => .int
  | 42 => .int
  | 43 => .int
  | 44 => .array .int
  | 45 => .array .int
  | 46 => .array .int
  | 47 => .array .int
  | _ => .array .int
theorem nmX10 : ∀ a, a < 49 → ∀ b, b < 49 → a ≠ b → (TX10 a).2.1 ≠ (TX10 b).2.1 := by decide +kernel
theorem tyX10_ok : ∀ k, k < 49 → parseFieldDescriptor (TX10 k).2.2.1 = some (tyX10 k) := by decide +kernel
abbrev cX10_init : ByteArray := prog_12_method_1_code
def yX10_init : MethodName := ⟨RX10, "<init>", "()V"⟩
abbrev cX10_in : ByteArray := prog_12_method_3_code
def yX10_in : MethodName := ⟨RX10, "in", "(JJJ)Z"⟩
abbrev cX10_met : ByteArray := prog_12_method_4_code
def yX10_met : MethodName := ⟨RX10, "met", "(I)I"⟩
abbrev cX10_isSheet : ByteArray := prog_12_method_5_code
def yX10_isSheet : MethodName := ⟨RX10, "isSheet", "(I)Z"⟩
abbrev cX10_sheet : ByteArray := prog_12_method_6_code
def yX10_sheet : MethodName := ⟨RX10, "sheet", "(III)I"⟩
abbrev cX10_lose : ByteArray := prog_12_method_7_code
def yX10_lose : MethodName := ⟨RX10, "lose", "(I)I"⟩
abbrev cX10_lacks : ByteArray := prog_12_method_8_code
def yX10_lacks : MethodName := ⟨RX10, "lacks", "(III)I"⟩
abbrev cX10_cut : ByteArray := prog_12_method_9_code
def yX10_cut : MethodName := ⟨RX10, "cut", "(II)I"⟩
abbrev cX10_lay : ByteArray := prog_12_method_10_code
def yX10_lay : MethodName := ⟨RX10, "lay", "(IIII)I"⟩
abbrev cX10_get : ByteArray := prog_12_method_11_code
def yX10_get : MethodName := ⟨RX10, "get", "(III)I"⟩
abbrev cX10_copy : ByteArray := prog_12_method_12_code
def yX10_copy : MethodName := ⟨RX10, "copy", "(IIIII)I"⟩
abbrev cX10_item : ByteArray := prog_12_method_13_code
def yX10_item : MethodName := ⟨RX10, "item", "(II)I"⟩
abbrev cX10_isCell : ByteArray := prog_12_method_14_code
def yX10_isCell : MethodName := ⟨RX10, "isCell", "(I)Z"⟩
abbrev cX10_isTwo : ByteArray := prog_12_method_15_code
def yX10_isTwo : MethodName := ⟨RX10, "isTwo", "(I)Z"⟩
abbrev cX10_cell : ByteArray := prog_12_method_16_code
def yX10_cell : MethodName := ⟨RX10, "cell", "(III)I"⟩
abbrev cX10_read : ByteArray := prog_12_method_17_code
def yX10_read : MethodName := ⟨RX10, "read", "(II)I"⟩
abbrev cX10_isRight : ByteArray := prog_12_method_18_code
def yX10_isRight : MethodName := ⟨RX10, "isRight", "(II)Z"⟩
abbrev cX10_wall : ByteArray := prog_12_method_19_code
def yX10_wall : MethodName := ⟨RX10, "wall", "(IIZ)I"⟩
abbrev cX10_leastOf : ByteArray := prog_12_method_20_code
def yX10_leastOf : MethodName := ⟨RX10, "leastOf", "(I)I"⟩
abbrev cX10_mostOf : ByteArray := prog_12_method_21_code
def yX10_mostOf : MethodName := ⟨RX10, "mostOf", "(I)I"⟩
abbrev cX10_set : ByteArray := prog_12_method_22_code
def yX10_set : MethodName := ⟨RX10, "set", "(II)I"⟩
abbrev cX10_isPerson : ByteArray := prog_12_method_23_code
def yX10_isPerson : MethodName := ⟨RX10, "isPerson", "(I)Z"⟩
abbrev cX10_person : ByteArray := prog_12_method_24_code
def yX10_person : MethodName := ⟨RX10, "person", "(III)I"⟩
abbrev cX10_seat : ByteArray := prog_12_method_25_code
def yX10_seat : MethodName := ⟨RX10, "seat", "(II)I"⟩
abbrev cX10_type : ByteArray := prog_12_method_26_code
def yX10_type : MethodName := ⟨RX10, "type", "(II)I"⟩
abbrev cX10_wipe : ByteArray := prog_12_method_27_code
def yX10_wipe : MethodName := ⟨RX10, "wipe", "(I)I"⟩
abbrev cX10_here : ByteArray := prog_12_method_28_code
def yX10_here : MethodName := ⟨RX10, "here", "(I)I"⟩
abbrev cX10_readsHabit : ByteArray := prog_12_method_29_code
def yX10_readsHabit : MethodName := ⟨RX10, "readsHabit", "(I)Z"⟩
abbrev cX10_reads : ByteArray := prog_12_method_30_code
def yX10_reads : MethodName := ⟨RX10, "reads", "(I)I"⟩
abbrev cX10_fault : ByteArray := prog_12_method_31_code
def yX10_fault : MethodName := ⟨RX10, "fault", "(I)I"⟩
abbrev cX10_isDial : ByteArray := prog_12_method_32_code
def yX10_isDial : MethodName := ⟨RX10, "isDial", "(I)Z"⟩
abbrev cX10_isReal : ByteArray := prog_12_method_33_code
def yX10_isReal : MethodName := ⟨RX10, "isReal", "(I)Z"⟩
abbrev cX10_isNumber : ByteArray := prog_12_method_34_code
def yX10_isNumber : MethodName := ⟨RX10, "isNumber", "(II)Z"⟩
abbrev cX10_dial : ByteArray := prog_12_method_35_code
def yX10_dial : MethodName := ⟨RX10, "dial", "(III)I"⟩
abbrev cX10_tune : ByteArray := prog_12_method_36_code
def yX10_tune : MethodName := ⟨RX10, "tune", "(III)I"⟩
abbrev cX10_isThere : ByteArray := prog_12_method_37_code
def yX10_isThere : MethodName := ⟨RX10, "isThere", "(II)Z"⟩
abbrev cX10_isTried : ByteArray := prog_12_method_38_code
def yX10_isTried : MethodName := ⟨RX10, "isTried", "(II)Z"⟩
abbrev cX10_acts : ByteArray := prog_12_method_39_code
def yX10_acts : MethodName := ⟨RX10, "acts", "(II)Z"⟩
abbrev cX10_gives : ByteArray := prog_12_method_40_code
def yX10_gives : MethodName := ⟨RX10, "gives", "(IIII)V"⟩
abbrev cX10_isShut : ByteArray := prog_12_method_41_code
def yX10_isShut : MethodName := ⟨RX10, "isShut", "(II)Z"⟩
abbrev cX10_works : ByteArray := prog_12_method_42_code
def yX10_works : MethodName := ⟨RX10, "works", "(II)V"⟩
abbrev cX10_flows : ByteArray := prog_12_method_43_code
def yX10_flows : MethodName := ⟨RX10, "flows", "(III)V"⟩
abbrev cX10_isFight : ByteArray := prog_12_method_44_code
def yX10_isFight : MethodName := ⟨RX10, "isFight", "()Z"⟩
abbrev cX10_steps : ByteArray := prog_12_method_45_code
def yX10_steps : MethodName := ⟨RX10, "steps", "(I)V"⟩
abbrev cX10_runs : ByteArray := prog_12_method_46_code
def yX10_runs : MethodName := ⟨RX10, "runs", "()V"⟩
abbrev cX10_warmth : ByteArray := prog_12_method_47_code
def yX10_warmth : MethodName := ⟨RX10, "warmth", "(III)I"⟩
abbrev cX10_isStep : ByteArray := prog_12_method_48_code
def yX10_isStep : MethodName := ⟨RX10, "isStep", "(I)Z"⟩
abbrev cX10_number : ByteArray := prog_12_method_49_code
def yX10_number : MethodName := ⟨RX10, "number", "(II)I"⟩
abbrev cX10_did : ByteArray := prog_12_method_50_code
def yX10_did : MethodName := ⟨RX10, "did", "(III)I"⟩
abbrev cX10_allOf : ByteArray := prog_12_method_51_code
def yX10_allOf : MethodName := ⟨RX10, "allOf", "(II)I"⟩
abbrev cX10_pointsNow : ByteArray := prog_12_method_52_code
def yX10_pointsNow : MethodName := ⟨RX10, "pointsNow", "()I"⟩
abbrev cX10_all : ByteArray := prog_12_method_53_code
def yX10_all : MethodName := ⟨RX10, "all", "(II)I"⟩
abbrev cX10_run : ByteArray := prog_12_method_54_code
def yX10_run : MethodName := ⟨RX10, "run", "(I)I"⟩
abbrev cX10_areTwo : ByteArray := prog_12_method_55_code
def yX10_areTwo : MethodName := ⟨RX10, "areTwo", "(II)Z"⟩
abbrev cX10_harm : ByteArray := prog_12_method_56_code
def yX10_harm : MethodName := ⟨RX10, "harm", "(II)I"⟩
abbrev cX10_fight : ByteArray := prog_12_method_57_code
def yX10_fight : MethodName := ⟨RX10, "fight", "(II)I"⟩
abbrev cX10_findLeads : ByteArray := prog_12_method_58_code
def yX10_findLeads : MethodName := ⟨RX10, "findLeads", "(I)V"⟩
abbrev cX10_leads : ByteArray := prog_12_method_59_code
def yX10_leads : MethodName := ⟨RX10, "leads", "(II)I"⟩
abbrev cX10_ringNow : ByteArray := prog_12_method_60_code
def yX10_ringNow : MethodName := ⟨RX10, "ringNow", "()I"⟩
abbrev cX10_ring : ByteArray := prog_12_method_61_code
def yX10_ring : MethodName := ⟨RX10, "ring", "()I"⟩
abbrev cX10_realDial : ByteArray := prog_12_method_62_code
def yX10_realDial : MethodName := ⟨RX10, "realDial", "(I)I"⟩
abbrev cX10_best : ByteArray := prog_12_method_63_code
def yX10_best : MethodName := ⟨RX10, "best", "(II)I"⟩
abbrev cX10_seatsBy : ByteArray := prog_12_method_64_code
def yX10_seatsBy : MethodName := ⟨RX10, "seatsBy", "(II)Z"⟩
abbrev cX10_seats : ByteArray := prog_12_method_65_code
def yX10_seats : MethodName := ⟨RX10, "seats", "(I)I"⟩
abbrev cX10_feel : ByteArray := prog_12_method_66_code
def yX10_feel : MethodName := ⟨RX10, "feel", "(I)I"⟩
abbrev cX10_worth : ByteArray := prog_12_method_67_code
def yX10_worth : MethodName := ⟨RX10, "worth", "(I)I"⟩
abbrev cX10_noVote : ByteArray := prog_12_method_68_code
def yX10_noVote : MethodName := ⟨RX10, "noVote", "(I)I"⟩
abbrev cX10_pressed : ByteArray := prog_12_method_69_code
def yX10_pressed : MethodName := ⟨RX10, "pressed", "(I)I"⟩
abbrev cX10_numberBy : ByteArray := prog_12_method_70_code
def yX10_numberBy : MethodName := ⟨RX10, "numberBy", "(II)I"⟩
abbrev cX10_vote : ByteArray := prog_12_method_71_code
def yX10_vote : MethodName := ⟨RX10, "vote", "(III)I"⟩
abbrev cX10_gain : ByteArray := prog_12_method_72_code
def yX10_gain : MethodName := ⟨RX10, "gain", "(IIII)I"⟩
abbrev cX10_monday : ByteArray := prog_12_method_73_code
def yX10_monday : MethodName := ⟨RX10, "monday", "(IIII)I"⟩
abbrev cX10_span : ByteArray := prog_12_method_74_code
def yX10_span : MethodName := ⟨RX10, "span", "(II)I"⟩
abbrev cX10_write : ByteArray := prog_12_method_75_code
def yX10_write : MethodName := ⟨RX10, "write", "(II)I"⟩
abbrev cX10_count : ByteArray := prog_12_method_76_code
def yX10_count : MethodName := ⟨RX10, "count", "(I)I"⟩
abbrev cX10_digest : ByteArray := prog_12_method_77_code
def yX10_digest : MethodName := ⟨RX10, "digest", "()J"⟩
def RJ6 : String := "java/lang/Integer"
abbrev cJ6_compare_7cf53 : ByteArray := prog_14_method_40_code
def yJ6_compare_7cf53 : MethodName := ⟨RJ6, "compare", "(II)I"⟩
abbrev cJ6_bitCount_0f7a4 : ByteArray := prog_14_method_49_code
def yJ6_bitCount_0f7a4 : MethodName := ⟨RJ6, "bitCount", "(I)I"⟩
def RJ9 : String := "java/lang/Math"
abbrev cJ9_max_7cf53 : ByteArray := prog_15_method_65_code
def yJ9_max_7cf53 : MethodName := ⟨RJ9, "max", "(II)I"⟩
abbrev cJ9_min_7cf53 : ByteArray := prog_15_method_69_code
def yJ9_min_7cf53 : MethodName := ⟨RJ9, "min", "(II)I"⟩
def RJ10 : String := "java/lang/System"
def RJ7 : String := "java/util/Arrays"
abbrev cJ7_rangeCheck_23922 : ByteArray := prog_17_method_30_code
def yJ7_rangeCheck_23922 : MethodName := ⟨RJ7, "rangeCheck", "(III)V"⟩
abbrev cJ7_fill_53178 : ByteArray := prog_17_method_103_code
def yJ7_fill_53178 : MethodName := ⟨RJ7, "fill", "([II)V"⟩
abbrev cJ7_fill_fda19 : ByteArray := prog_17_method_104_code
def yJ7_fill_fda19 : MethodName := ⟨RJ7, "fill", "([IIII)V"⟩
def RL : String := "WarmFloorLaw"
abbrev cL_law : ByteArray := code
def yL_law : MethodName := ⟨RL, "law", "([I)Z"⟩
abbrev vwCl : List vw_C := [(RX0, TX0, 16), (RX1, TX1, 17), (RX2, TX2, 9), (RX3, TX3, 5), (RX4, TX4, 3), (RX5, TX5, 5), (RX6, TX6, 4), (RX7, TX7, 4), (RX8, TX8, 4), (RX9, TX9, 7), (RX10, TX10, 49)]
end
section
abbrev sg_S : Type := Nat → Nat → Int32
abbrev sg_Z : Type := Nat × Nat × Nat × (Nat → Nat → Bool)
abbrev sg_L : Type := List (Option Value)
abbrev sg_R : Type := (Nat × sg_L × List Value × sg_Z × sg_S) ⊕ ((Nat × List Value × Bool × Nat × sg_L × List Value) ⊕ Option Value)
def sg_CN : List String := [RX0, RX1, RX2, RX3, RX4, RX5, RX6, RX7, RX8, RX9, RX10, RL, RJ6, RJ9, RJ7]
def sg_cn (k : Nat) : String := sg_CN.getD k ""
/-- name, bytes, locals, answer, own number, frames, words -/
abbrev sg_Mt : Type := MethodName × ByteArray × Nat × Option FieldType × Nat × Nat × Nat
def sg_MT : List sg_Mt := [
  (yX0_init, cX0_init, 2, none, 0, 2, 50),
  (yX0_play, cX0_play, 1, none, 0, 4, 101),
  (yX0_begin, cX0_begin, 1, none, 0, 1, 30),
  (yX0_playSteps, cX0_playSteps, 4, none, 0, 3, 78),
  (yX0_letPersonsAct, cX0_letPersonsAct, 4, none, 0, 2, 53),
  (yX0_doFirstThatFits, cX0_doFirstThatFits, 9, (some .boolean), 0, 1, 25),
  (yX0_press, cX0_press, 6, (some .boolean), 0, 0, 0),
  (yX0_isAbsent, cX0_isAbsent, 2, (some .boolean), 0, 0, 0),
  (yX0_flowBetweenCells, cX0_flowBetweenCells, 6, none, 0, 1, 25),
  (yX0_flowBetween, cX0_flowBetween, 6, none, 0, 0, 0),
  (yX0_letDialsWork, cX0_letDialsWork, 4, none, 0, 2, 55),
  (yX0_shutCells, cX0_shutCells, 4, (some .int), 0, 1, 21),
  (yX0_addGifts, cX0_addGifts, 7, none, 0, 1, 29),
  (yX0_addGrilles, cX0_addGrilles, 10, none, 0, 0, 0),
  (yX0_costOf, cX0_costOf, 5, (some .int), 0, 1, 20),
  (yX0_settle, cX0_settle, 7, none, 0, 1, 21),
  (yX0_givePoints, cX0_givePoints, 6, none, 0, 1, 21),
  (yX0_isFight, cX0_isFight, 6, (some .boolean), 0, 2, 55),
  (yX1_init, cX1_init, 2, none, 1, 2, 50),
  (yX1_putWallBeside, cX1_putWallBeside, 5, (some .boolean), 1, 0, 0),
  (yX1_putWallBelow, cX1_putWallBelow, 5, (some .boolean), 1, 0, 0),
  (yX1_habitBytes, cX1_habitBytes, 3, (some .int), 1, 0, 0),
  (yX1_realDialFrom, cX1_realDialFrom, 3, (some .int), 1, 0, 0),
  (yX2_init, cX2_init, 1, none, 2, 1, 30),
  (yX2_clear, cX2_clear, 1, none, 2, 0, 0),
  (yX2_add, cX2_add, 2, none, 2, 2, 42),
  (yX2_faultPlace, cX2_faultPlace, 1, (some .int), 2, 0, 0),
  (yX2_goesOn, cX2_goesOn, 2, (some .boolean), 2, 1, 21),
  (yX2_takesLetter, cX2_takesLetter, 2, (some .boolean), 2, 0, 0),
  (yX2_takesNumber, cX2_takesNumber, 2, (some .boolean), 2, 0, 0),
  (yX2_takesDial, cX2_takesDial, 2, (some .boolean), 2, 0, 0),
  (yX2_takesSign, cX2_takesSign, 2, (some .boolean), 2, 0, 0),
  (yX2_takesEnd, cX2_takesEnd, 2, (some .boolean), 2, 0, 0),
  (yX3_init, cX3_init, 1, none, 3, 1, 30),
  (yX3_follow, cX3_follow, 2, none, 3, 1, 30),
  (yX4_init, cX4_init, 1, none, 4, 1, 30),
  (yX5_init, cX5_init, 1, none, 5, 1, 30),
  (yX5_begin, cX5_begin, 3, none, 5, 1, 21),
  (yX5_note, cX5_note, 2, none, 5, 1, 30),
  (yX5_nextOrder, cX5_nextOrder, 5, (some .boolean), 5, 1, 23),
  (yX5_swap, cX5_swap, 4, none, 5, 0, 0),
  (yX6_init, cX6_init, 1, none, 6, 1, 30),
  (yX6_bestWithin, cX6_bestWithin, 7, (some .int), 6, 0, 0),
  (yX7_init, cX7_init, 1, none, 7, 1, 30),
  (yX7_isSheet, cX7_isSheet, 1, (some .boolean), 7, 1, 22),
  (yX7_isForm, cX7_isForm, 1, (some .boolean), 7, 1, 22),
  (yX7_found, cX7_found, 2, (some .int), 7, 0, 0),
  (yX7_isLost, cX7_isLost, 2, (some .boolean), 7, 0, 0),
  (yX7_size, cX7_size, 2, (some .int), 7, 0, 0),
  (yX7_item, cX7_item, 3, (some .int), 7, 0, 0),
  (yX7_put, cX7_put, 5, none, 7, 0, 0),
  (yX7_renew, cX7_renew, 4, none, 7, 2, 46),
  (yX7_drop, cX7_drop, 2, (some .int), 7, 0, 0),
  (yX7_findingAt, cX7_findingAt, 4, (some .int), 7, 1, 23),
  (yX7_areAlike, cX7_areAlike, 3, (some .boolean), 7, 0, 0),
  (yX7_hasItems, cX7_hasItems, 4, (some .boolean), 7, 0, 0),
  (yX7_move, cX7_move, 6, none, 7, 1, 30),
  (yX8_init, cX8_init, 1, none, 8, 1, 30),
  (yX8_learn, cX8_learn, 3, none, 8, 1, 21),
  (yX8_answer, cX8_answer, 4, (some .int), 8, 1, 21),
  (yX9_init, cX9_init, 1, none, 9, 3, 71),
  (yX9_cell, cX9_cell, 6, (some .int), 9, 2, 42),
  (yX9_read, cX9_read, 5, (some .int), 9, 2, 42),
  (yX9_wall, cX9_wall, 6, (some .int), 9, 2, 42),
  (yX9_set, cX9_set, 4, (some .int), 9, 1, 22),
  (yX9_person, cX9_person, 5, (some .int), 9, 2, 42),
  (yX9_seat, cX9_seat, 4, (some .int), 9, 2, 43),
  (yX9_type, cX9_type, 4, (some .int), 9, 3, 63),
  (yX9_wipe, cX9_wipe, 3, (some .int), 9, 2, 43),
  (yX9_fault, cX9_fault, 2, (some .int), 9, 2, 43),
  (yX9_dial, cX9_dial, 5, (some .int), 9, 2, 43),
  (yX9_tune, cX9_tune, 4, (some .int), 9, 2, 43),
  (yX9_warmth, cX9_warmth, 6, (some .int), 9, 6, 141),
  (yX9_number, cX9_number, 3, (some .int), 9, 6, 141),
  (yX9_did, cX9_did, 6, (some .int), 9, 6, 141),
  (yX9_all, cX9_all, 4, (some .int), 9, 6, 141),
  (yX9_run, cX9_run, 3, (some .int), 9, 6, 141),
  (yX9_harm, cX9_harm, 3, (some .int), 9, 6, 142),
  (yX9_fight, cX9_fight, 6, (some .int), 9, 6, 141),
  (yX9_leads, cX9_leads, 3, (some .int), 9, 6, 142),
  (yX9_ring, cX9_ring, 1, (some .int), 9, 6, 142),
  (yX9_best, cX9_best, 6, (some .int), 9, 6, 145),
  (yX9_seats, cX9_seats, 2, (some .int), 9, 6, 144),
  (yX9_feel, cX9_feel, 5, (some .int), 9, 5, 121),
  (yX9_worth, cX9_worth, 2, (some .int), 9, 6, 141),
  (yX9_vote, cX9_vote, 4, (some .int), 9, 3, 72),
  (yX9_gain, cX9_gain, 10, (some .int), 9, 6, 144),
  (yX9_monday, cX9_monday, 6, (some .int), 9, 4, 101),
  (yX9_span, cX9_span, 5, (some .int), 9, 2, 50),
  (yX9_sheet, cX9_sheet, 4, (some .int), 9, 3, 69),
  (yX9_lose, cX9_lose, 2, (some .int), 9, 2, 42),
  (yX9_lay, cX9_lay, 6, (some .int), 9, 2, 46),
  (yX9_get, cX9_get, 5, (some .int), 9, 2, 46),
  (yX9_copy, cX9_copy, 6, (some .int), 9, 2, 55),
  (yX9_write, cX9_write, 6, (some .int), 9, 6, 141),
  (yX9_count, cX9_count, 2, (some .int), 9, 1, 22),
  (yX9_digest, cX9_digest, 5, (some .long), 9, 6, 142),
  (yX9_mixedRow, cX9_mixedRow, 8, (some .long), 9, 0, 0),
  (yX9_isWithin, cX9_isWithin, 3, (some .boolean), 9, 0, 0),
  (yX9_isCell, cX9_isCell, 1, (some .boolean), 9, 1, 22),
  (yX9_isLastInRow, cX9_isLastInRow, 1, (some .boolean), 9, 0, 0),
  (yX9_isStep, cX9_isStep, 1, (some .boolean), 9, 1, 22),
  (yX9_isNumber, cX9_isNumber, 2, (some .boolean), 9, 1, 22),
  (yX9_triedNumber, cX9_triedNumber, 1, (some .int), 9, 0, 0),
  (yX9_isPerson, cX9_isPerson, 2, (some .boolean), 9, 1, 22),
  (yX9_isDial, cX9_isDial, 2, (some .boolean), 9, 1, 22),
  (yX9_isReal, cX9_isReal, 2, (some .boolean), 9, 2, 43),
  (yX9_exchange, cX9_exchange, 5, (some .int), 9, 0, 0),
  (yX9_playedToday, cX9_playedToday, 1, (some (.object "WarmFloor$Day")), 9, 5, 121),
  (yX9_refreshQuiet, cX9_refreshQuiet, 2, none, 9, 5, 121),
  (yX9_ledBy, cX9_ledBy, 5, (some .int), 9, 0, 0),
  (yX9_ringOf, cX9_ringOf, 4, (some .int), 9, 2, 50),
  (yX9_comesBack, cX9_comesBack, 7, (some .boolean), 9, 1, 24),
  (yX9_refreshSettings, cX9_refreshSettings, 5, none, 9, 5, 121),
  (yX9_refreshSeating, cX9_refreshSeating, 4, none, 9, 5, 121),
  (yX9_arePresses, cX9_arePresses, 3, (some .boolean), 9, 1, 22),
  (yX9_votedNumber, cX9_votedNumber, 10, (some .int), 9, 2, 43),
  (yX9_middle, cX9_middle, 4, (some .int), 9, 0, 0),
  (yX9_pointsByNumber, cX9_pointsByNumber, 4, (some .int), 9, 5, 121),
  (yX9_arePairs, cX9_arePairs, 4, (some .boolean), 9, 1, 22),
  (yX10_init, cX10_init, 2, none, 10, 1, 30),
  (yX10_in, cX10_in, 6, (some .boolean), 10, 0, 0),
  (yX10_met, cX10_met, 2, (some .int), 10, 0, 0),
  (yX10_isSheet, cX10_isSheet, 1, (some .boolean), 10, 1, 25),
  (yX10_sheet, cX10_sheet, 5, (some .int), 10, 2, 45),
  (yX10_lose, cX10_lose, 2, (some .int), 10, 2, 45),
  (yX10_lacks, cX10_lacks, 4, (some .int), 10, 1, 25),
  (yX10_cut, cX10_cut, 2, (some .int), 10, 0, 0),
  (yX10_lay, cX10_lay, 6, (some .int), 10, 2, 48),
  (yX10_get, cX10_get, 4, (some .int), 10, 2, 48),
  (yX10_copy, cX10_copy, 7, (some .int), 10, 2, 45),
  (yX10_item, cX10_item, 3, (some .int), 10, 0, 0),
  (yX10_isCell, cX10_isCell, 1, (some .boolean), 10, 1, 25),
  (yX10_isTwo, cX10_isTwo, 1, (some .boolean), 10, 1, 25),
  (yX10_cell, cX10_cell, 5, (some .int), 10, 2, 45),
  (yX10_read, cX10_read, 4, (some .int), 10, 3, 69),
  (yX10_isRight, cX10_isRight, 2, (some .boolean), 10, 0, 0),
  (yX10_wall, cX10_wall, 7, (some .int), 10, 2, 45),
  (yX10_leastOf, cX10_leastOf, 1, (some .int), 10, 0, 0),
  (yX10_mostOf, cX10_mostOf, 1, (some .int), 10, 0, 0),
  (yX10_set, cX10_set, 4, (some .int), 10, 1, 25),
  (yX10_isPerson, cX10_isPerson, 2, (some .boolean), 10, 1, 25),
  (yX10_person, cX10_person, 4, (some .int), 10, 2, 45),
  (yX10_seat, cX10_seat, 4, (some .int), 10, 2, 46),
  (yX10_type, cX10_type, 3, (some .int), 10, 2, 46),
  (yX10_wipe, cX10_wipe, 3, (some .int), 10, 2, 46),
  (yX10_here, cX10_here, 2, (some .int), 10, 0, 0),
  (yX10_readsHabit, cX10_readsHabit, 7, (some .boolean), 10, 1, 25),
  (yX10_reads, cX10_reads, 3, (some .int), 10, 2, 51),
  (yX10_fault, cX10_fault, 2, (some .int), 10, 3, 73),
  (yX10_isDial, cX10_isDial, 2, (some .boolean), 10, 1, 25),
  (yX10_isReal, cX10_isReal, 2, (some .boolean), 10, 2, 46),
  (yX10_isNumber, cX10_isNumber, 2, (some .boolean), 10, 2, 45),
  (yX10_dial, cX10_dial, 4, (some .int), 10, 3, 66),
  (yX10_tune, cX10_tune, 5, (some .int), 10, 3, 66),
  (yX10_isThere, cX10_isThere, 3, (some .boolean), 10, 0, 0),
  (yX10_isTried, cX10_isTried, 7, (some .boolean), 10, 2, 46),
  (yX10_acts, cX10_acts, 7, (some .boolean), 10, 3, 72),
  (yX10_gives, cX10_gives, 5, none, 10, 0, 0),
  (yX10_isShut, cX10_isShut, 5, (some .boolean), 10, 1, 22),
  (yX10_works, cX10_works, 8, none, 10, 2, 46),
  (yX10_flows, cX10_flows, 5, none, 10, 0, 0),
  (yX10_isFight, cX10_isFight, 5, (some .boolean), 10, 0, 0),
  (yX10_steps, cX10_steps, 6, none, 10, 4, 98),
  (yX10_runs, cX10_runs, 2, none, 10, 5, 123),
  (yX10_warmth, cX10_warmth, 4, (some .int), 10, 6, 144),
  (yX10_isStep, cX10_isStep, 1, (some .boolean), 10, 1, 25),
  (yX10_number, cX10_number, 3, (some .int), 10, 6, 144),
  (yX10_did, cX10_did, 4, (some .int), 10, 6, 144),
  (yX10_allOf, cX10_allOf, 5, (some .int), 10, 0, 0),
  (yX10_pointsNow, cX10_pointsNow, 3, (some .int), 10, 1, 24),
  (yX10_all, cX10_all, 3, (some .int), 10, 6, 144),
  (yX10_run, cX10_run, 2, (some .int), 10, 6, 144),
  (yX10_areTwo, cX10_areTwo, 3, (some .boolean), 10, 2, 46),
  (yX10_harm, cX10_harm, 4, (some .int), 10, 6, 144),
  (yX10_fight, cX10_fight, 3, (some .int), 10, 6, 144),
  (yX10_findLeads, cX10_findLeads, 3, none, 10, 6, 144),
  (yX10_leads, cX10_leads, 3, (some .int), 10, 7, 166),
  (yX10_ringNow, cX10_ringNow, 4, (some .int), 10, 7, 166),
  (yX10_ring, cX10_ring, 1, (some .int), 10, 8, 189),
  (yX10_realDial, cX10_realDial, 4, (some .int), 10, 0, 0),
  (yX10_best, cX10_best, 13, (some .int), 10, 6, 144),
  (yX10_seatsBy, cX10_seatsBy, 8, (some .boolean), 10, 0, 0),
  (yX10_seats, cX10_seats, 7, (some .int), 10, 6, 144),
  (yX10_feel, cX10_feel, 7, (some .int), 10, 6, 144),
  (yX10_worth, cX10_worth, 3, (some .int), 10, 6, 144),
  (yX10_noVote, cX10_noVote, 4, (some .int), 10, 1, 25),
  (yX10_pressed, cX10_pressed, 6, (some .int), 10, 0, 0),
  (yX10_numberBy, cX10_numberBy, 4, (some .int), 10, 1, 25),
  (yX10_vote, cX10_vote, 5, (some .int), 10, 3, 67),
  (yX10_gain, cX10_gain, 12, (some .int), 10, 6, 144),
  (yX10_monday, cX10_monday, 7, (some .int), 10, 6, 144),
  (yX10_span, cX10_span, 11, (some .int), 10, 2, 45),
  (yX10_write, cX10_write, 5, (some .int), 10, 6, 144),
  (yX10_count, cX10_count, 4, (some .int), 10, 0, 0),
  (yX10_digest, cX10_digest, 6, (some .long), 10, 8, 189),
  (yJ6_compare_7cf53, cJ6_compare_7cf53, 2, (some .int), 12, 0, 0),
  (yJ6_bitCount_0f7a4, cJ6_bitCount_0f7a4, 1, (some .int), 12, 0, 0),
  (yJ9_max_7cf53, cJ9_max_7cf53, 2, (some .int), 13, 0, 0),
  (yJ9_min_7cf53, cJ9_min_7cf53, 2, (some .int), 13, 0, 0),
  (yJ7_rangeCheck_23922, cJ7_rangeCheck_23922, 3, none, 14, 0, 0),
  (yJ7_fill_53178, cJ7_fill_53178, 4, none, 14, 0, 0),
  (yJ7_fill_fda19, cJ7_fill_fda19, 5, none, 14, 1, 22),
  (yL_law, cL_law, 4, (some .boolean), 11, 9, 214)]
def sg_m0 : sg_Mt := (yL_law, cL_law, 0, none, 0, 0, 0)
def sg_mt (m : Nat) : sg_Mt := sg_MT.getD m sg_m0
abbrev sg_my (m : Nat) : MethodName := (sg_mt m).1
abbrev sg_mc (m : Nat) : ByteArray := (sg_mt m).2.1
abbrev sg_ml (m : Nat) : Nat := (sg_mt m).2.2.1
abbrev sg_mr (m : Nat) : Option FieldType := (sg_mt m).2.2.2.1
abbrev sg_mo (m : Nat) : Nat := (sg_mt m).2.2.2.2.1
abbrev sg_fr (m : Nat) : Nat := (sg_mt m).2.2.2.2.2.1
abbrev sg_lo (m : Nat) : Nat := (sg_mt m).2.2.2.2.2.2
/-- number of parameters by words of the stack (the receiver among them) -/
def sg_AC : List Nat := [2, 1, 1, 3, 2, 3, 4, 2, 2, 5, 2, 2, 5, 5, 3, 2, 2, 4, 1, 3, 3, 1, 2, 1, 1, 2, 1, 2, 2, 2, 2, 2, 2, 1, 2, 1, 1, 2, 2, 1, 3, 1, 2, 1, 1, 1, 2, 2, 2, 3, 4, 4, 2, 4, 3, 4, 6, 1, 3, 2, 1, 4, 3, 4, 3, 4, 3, 3, 2, 2, 4, 4, 4, 3, 4, 3, 2, 3, 3, 3, 1, 3, 2, 2, 2, 4, 5, 5, 3, 4, 2, 5, 4, 6, 3, 2, 1, 4, 3, 1, 1, 1, 2, 1, 2, 2, 2, 4, 1, 1, 3, 2, 3, 3, 1, 2, 6, 3, 4, 2, 1, 3, 2, 1, 4, 2, 4, 2, 5, 4, 6, 3, 1, 1, 4, 3, 2, 4, 1, 1, 3, 2, 4, 3, 3, 2, 2, 2, 2, 2, 2, 2, 2, 4, 4, 3, 3, 3, 5, 3, 3, 4, 1, 2, 1, 4, 1, 3, 4, 3, 1, 3, 2, 3, 3, 3, 2, 3, 1, 1, 2, 3, 3, 2, 2, 2, 2, 2, 3, 4, 5, 5, 3, 3, 2, 1, 2, 1, 2, 2, 3, 2, 4, 1]
def sg_ac (m : Nat) : Nat := sg_AC.getD m 0
/-- fields: by own number: entry, number of the object kind, slot, place of its word -/
def sg_FT : List (List (Nat × Nat × Nat × Nat)) := [
  [(12, 0, 0, 295), (18, 0, 1, 297), (22, 0, 2, 299), (25, 0, 3, 301), (28, 0, 4, 303), (31, 0, 5, 305), (34, 0, 6, 307), (37, 0, 7, 309), (40, 0, 10, 315), (44, 0, 12, 318), (47, 0, 13, 319), (50, 0, 14, 320), (53, 0, 15, 321), (56, 0, 11, 317), (67, 1, 0, 153), (76, 1, 1, 156), (77, 3, 1, 273), (86, 0, 8, 311), (89, 0, 9, 313), (108, 1, 5, 167), (111, 3, 3, 279), (114, 1, 9, 179), (124, 3, 0, 270), (131, 1, 7, 173), (134, 1, 8, 176), (137, 2, 1, 118), (140, 2, 2, 120), (144, 2, 4, 124), (147, 2, 3, 122), (154, 2, 5, 126), (161, 1, 11, 185), (164, 1, 2, 159), (167, 1, 10, 182), (170, 3, 4, 282), (173, 1, 3, 161), (177, 1, 4, 164), (197, 1, 12, 189), (206, 3, 2, 276), (209, 1, 15, 198)],
  [(9, 1, 0, 151), (15, 1, 1, 154), (26, 1, 2, 157), (29, 1, 6, 169), (32, 1, 7, 172), (35, 1, 8, 175), (40, 1, 9, 178), (44, 1, 11, 184), (47, 1, 12, 187), (50, 1, 13, 190), (53, 1, 14, 193), (56, 1, 15, 196), (66, 1, 3, 160), (70, 1, 16, 199), (73, 1, 4, 163), (76, 1, 5, 166), (79, 2, 0, 115), (82, 1, 10, 181)],
  [(11, 2, 2, 119), (15, 2, 3, 121), (19, 2, 4, 123), (22, 2, 5, 125), (25, 2, 6, 127), (29, 2, 8, 129), (32, 2, 0, 114), (35, 2, 1, 117), (38, 2, 7, 128)],
  [(9, 3, 0, 269), (15, 3, 1, 272), (18, 3, 2, 275), (21, 1, 6, 170), (30, 1, 13, 191), (31, 1, 14, 194), (32, 3, 3, 278), (36, 3, 4, 281)],
  [(9, 4, 0, 361), (15, 4, 1, 363), (19, 4, 2, 365)],
  [(9, 5, 0, 403), (15, 5, 2, 407), (19, 5, 3, 409), (28, 5, 4, 411), (31, 5, 1, 405)],
  [(9, 6, 0, 380), (15, 6, 2, 384), (19, 6, 3, 386), (22, 6, 1, 382)],
  [(11, 7, 1, 245), (15, 7, 2, 246), (18, 7, 3, 247), (31, 7, 0, 243)],
  [(9, 8, 0, 842), (15, 8, 1, 843), (18, 8, 2, 844), (21, 8, 3, 845)],
  [(12, 9, 0, 423), (19, 9, 1, 424), (28, 9, 2, 425), (32, 9, 3, 426), (38, 9, 4, 427), (45, 9, 5, 428), (52, 9, 6, 429), (64, 1, 0, 152), (68, 1, 1, 155), (71, 1, 16, 200), (116, 1, 2, 158), (119, 1, 5, 168), (122, 1, 6, 171), (125, 1, 7, 174), (128, 1, 8, 177), (134, 1, 9, 180), (138, 2, 0, 116), (158, 1, 10, 183), (161, 1, 11, 186), (164, 1, 12, 188), (167, 1, 13, 192), (170, 1, 14, 195), (173, 1, 15, 197), (188, 0, 1, 298), (189, 0, 2, 300), (193, 0, 3, 302), (196, 0, 4, 304), (199, 0, 5, 306), (202, 0, 6, 308), (205, 0, 7, 310), (208, 0, 8, 312), (211, 0, 9, 314), (217, 4, 1, 364), (242, 6, 2, 385), (246, 5, 1, 406), (248, 5, 3, 410), (254, 0, 0, 296), (263, 3, 2, 277), (267, 3, 4, 283), (284, 3, 3, 280), (334, 1, 3, 162), (340, 1, 4, 165), (346, 7, 0, 244), (360, 0, 10, 316), (363, 4, 0, 362), (370, 4, 2, 366), (377, 6, 0, 381), (378, 6, 1, 383), (381, 3, 1, 274), (382, 6, 3, 387), (385, 5, 0, 404), (388, 3, 0, 271), (389, 5, 2, 408)],
  [(7, 10, 0, 955), (13, 10, 1, 956), (16, 10, 2, 957), (19, 10, 3, 958), (22, 10, 5, 960), (25, 10, 6, 961), (29, 10, 7, 962), (32, 10, 8, 963), (35, 10, 10, 965), (38, 10, 11, 966), (41, 10, 12, 967), (44, 10, 13, 968), (47, 10, 14, 969), (50, 10, 16, 971), (53, 10, 17, 972), (56, 10, 18, 973), (59, 10, 19, 974), (62, 10, 20, 975), (65, 10, 22, 977), (68, 10, 23, 978), (71, 10, 24, 979), (74, 10, 25, 980), (77, 10, 26, 981), (80, 10, 27, 982), (83, 10, 28, 983), (86, 10, 29, 984), (89, 10, 30, 985), (92, 10, 31, 986), (95, 10, 33, 988), (98, 10, 34, 989), (101, 10, 35, 990), (104, 10, 36, 991), (107, 10, 38, 993), (111, 10, 39, 994), (114, 10, 41, 996), (117, 10, 42, 997), (120, 10, 44, 999), (123, 10, 45, 1000), (126, 10, 46, 1001), (129, 10, 47, 1002), (132, 10, 48, 1003), (135, 10, 4, 959), (191, 10, 9, 964), (199, 10, 15, 970), (217, 10, 21, 976), (232, 10, 40, 995), (247, 10, 32, 987), (250, 10, 37, 992), (264, 10, 43, 998)],
  [],
  [],
  [],
  []]
def sg_fl (o i : Nat) : Option (Nat × Nat × Nat) := ((sg_FT.getD o []).find? (fun e => e.1 == i)).map (fun e => e.2)
/-- calls: by own number: entry, kind, method, place of its word -/
def sg_KT : List (List (Nat × Nat × Nat × Nat)) := [
  [(3, 6, 0, 262), (11, 5, 33, 265), (60, 2, 2, 607), (63, 2, 3, 613), (70, 7, 0, 611), (80, 1, 201, 612), (92, 2, 4, 617), (96, 2, 8, 634), (99, 2, 10, 644), (102, 2, 15, 671), (105, 2, 16, 677), (118, 2, 26, 621), (127, 2, 5, 622), (150, 2, 7, 626), (157, 2, 6, 630), (181, 2, 9, 640), (185, 2, 11, 648), (189, 2, 12, 652), (193, 2, 14, 661), (200, 2, 13, 656), (203, 4, 100, 660), (212, 1, 197, 665), (217, 1, 199, 675), (222, 1, 198, 676)],
  [(3, 6, 0, 94), (21, 8, 0, 97), (59, 1, 201, 106), (65, 5, 23, 110)],
  [(3, 6, 0, 113), (41, 2, 27, 528), (45, 2, 28, 532), (48, 2, 29, 536), (51, 2, 30, 540), (54, 2, 31, 544), (57, 2, 32, 548)],
  [(3, 6, 0, 268), (24, 7, 0, 600)],
  [(3, 6, 0, 360)],
  [(3, 6, 0, 402), (22, 1, 199, 768), (34, 7, 0, 773), (40, 2, 40, 778)],
  [(3, 6, 0, 379)],
  [(3, 6, 0, 241), (21, 1, 201, 242), (27, 4, 98, 462), (35, 1, 202, 876), (38, 2, 47, 898), (42, 2, 55, 899), (45, 7, 0, 925)],
  [(3, 6, 0, 841), (24, 1, 198, 859), (30, 1, 199, 860)],
  [(3, 6, 0, 86), (11, 3, 18, 91), (18, 3, 43, 238), (25, 3, 0, 259), (37, 5, 35, 357), (44, 5, 41, 376), (51, 5, 36, 399), (56, 1, 99, 449), (60, 1, 98, 452), (75, 1, 44, 459), (78, 2, 47, 463), (81, 2, 46, 467), (85, 2, 48, 471), (88, 1, 199, 475), (94, 2, 49, 478), (97, 1, 198, 486), (100, 1, 100, 489), (103, 2, 19, 492), (107, 2, 20, 496), (131, 2, 104, 516), (143, 2, 25, 524), (147, 2, 24, 556), (150, 2, 26, 564), (154, 1, 102, 572), (176, 2, 105, 579), (179, 2, 107, 583), (184, 2, 108, 592), (190, 1, 101, 685), (214, 2, 109, 704), (218, 2, 17, 713), (221, 2, 110, 721), (225, 2, 111, 729), (229, 2, 22, 741), (232, 2, 113, 745), (236, 2, 42, 752), (239, 1, 103, 749), (243, 2, 114, 760), (251, 2, 106, 786), (258, 2, 34, 596), (264, 2, 1, 603), (270, 2, 115, 798), (273, 2, 116, 802), (277, 2, 85, 817), (281, 2, 118, 818), (287, 2, 2, 826), (290, 2, 3, 827), (293, 2, 119, 832), (298, 5, 57, 838), (299, 2, 58, 855), (302, 2, 59, 861), (305, 1, 45, 869), (308, 2, 51, 872), (312, 2, 52, 886), (315, 2, 53, 894), (318, 2, 50, 903), (324, 2, 54, 916), (327, 2, 55, 920), (330, 2, 56, 921), (337, 1, 197, 934), (343, 2, 21, 935), (353, 2, 95, 945), (356, 1, 97, 946), (364, 7, 0, 708), (373, 2, 112, 733), (386, 2, 37, 764), (392, 2, 38, 769), (395, 2, 39, 774), (399, 1, 196, 806), (402, 2, 117, 809)],
  [(1, 6, 0, 954), (140, 1, 121, 1111), (144, 1, 123, 1107), (150, 2, 122, 1115), (154, 2, 126, 1127), (158, 1, 127, 1131), (165, 1, 132, 1147), (168, 1, 133, 1151), (173, 2, 131, 1159), (176, 2, 134, 1163), (179, 1, 136, 1168), (185, 1, 138, 1176), (188, 1, 139, 1179), (194, 2, 141, 1190), (202, 2, 146, 1215), (211, 2, 147, 1211), (214, 2, 148, 1207), (220, 2, 150, 1235), (227, 1, 152, 1226), (235, 2, 156, 1257), (238, 2, 155, 1265), (241, 2, 159, 1273), (244, 2, 158, 1277), (253, 2, 157, 1253), (256, 2, 161, 1261), (260, 2, 160, 1269), (267, 2, 162, 1281), (271, 2, 163, 1249), (277, 2, 164, 1245), (282, 1, 166, 1289), (285, 2, 169, 1301), (288, 2, 170, 1309), (292, 2, 173, 1317), (295, 2, 176, 1329), (298, 2, 178, 1337), (303, 2, 180, 1346), (308, 2, 182, 1355), (311, 2, 151, 1363), (314, 2, 187, 1383), (317, 2, 186, 1375), (320, 2, 188, 1379), (329, 2, 194, 1414)],
  [(9, 3, 60, 83), (12, 3, 120, 951), (13, 2, 61, 445), (17, 2, 134, 1143), (18, 2, 62, 455), (22, 2, 135, 1155), (23, 2, 63, 482), (27, 2, 137, 1164), (28, 2, 64, 500), (31, 2, 140, 1171), (32, 2, 65, 508), (35, 2, 142, 1182), (36, 2, 66, 512), (39, 2, 143, 1186), (40, 2, 67, 520), (43, 2, 144, 1194), (44, 2, 68, 552), (48, 2, 145, 1199), (49, 2, 69, 560), (52, 2, 149, 1203), (53, 2, 70, 568), (56, 2, 153, 1222), (57, 2, 71, 575), (60, 2, 154, 1231), (61, 2, 72, 588), (64, 2, 165, 1240), (65, 2, 73, 681), (68, 2, 167, 1285), (69, 2, 74, 688), (72, 2, 168, 1293), (73, 2, 75, 692), (76, 2, 171, 1297), (77, 2, 76, 696), (80, 2, 172, 1305), (81, 2, 77, 700), (84, 2, 174, 1313), (85, 2, 78, 709), (88, 2, 175, 1321), (89, 2, 79, 717), (92, 2, 177, 1325), (93, 2, 80, 725), (97, 2, 179, 1333), (98, 2, 81, 737), (101, 2, 181, 1341), (102, 2, 82, 756), (105, 2, 183, 1350), (106, 2, 83, 782), (109, 2, 184, 1359), (110, 2, 84, 790), (113, 2, 185, 1367), (114, 2, 85, 794), (117, 2, 189, 1371), (118, 2, 86, 813), (122, 2, 190, 1387), (123, 2, 87, 822), (126, 2, 191, 1391), (127, 2, 88, 828), (130, 2, 192, 1396), (131, 2, 89, 865), (134, 2, 124, 1103), (135, 2, 90, 882), (138, 2, 125, 1119), (139, 2, 91, 890), (142, 2, 128, 1123), (143, 2, 92, 907), (146, 2, 129, 1134), (147, 2, 93, 912), (151, 2, 130, 1139), (152, 2, 94, 926), (155, 2, 193, 1400), (156, 2, 95, 930), (159, 2, 194, 1404), (160, 2, 96, 939), (164, 2, 195, 1408)],
  [],
  [],
  [(13, 1, 200, 879)]]
def sg_kl (o i : Nat) : Option (Nat × Nat × Nat) := ((sg_KT.getD o []).find? (fun e => e.1 == i)).map (fun e => e.2)
/-- new: by own number: entry, number of the object kind, place -/
def sg_NT : List (List (Nat × Nat × Nat)) := [
  [(9, 3, 263)],
  [(38, 2, 104)],
  [],
  [],
  [],
  [],
  [],
  [],
  [],
  [(9, 1, 89), (16, 7, 236), (23, 0, 257), (35, 4, 355), (42, 6, 374), (49, 5, 397), (296, 8, 836)],
  [],
  [(7, 9, 81), (10, 10, 949)],
  [],
  [],
  []]
def sg_nl (o i : Nat) : Option (Nat × Nat) := ((sg_NT.getD o []).find? (fun e => e.1 == i)).map (fun e => e.2)
/-- constants: by own number: entry, value, place -/
def sg_IT : List (List (Nat × Int32 × Nat)) := [
  [(176, 8255455, 638), (180, 262143, 639)],
  [],
  [],
  [],
  [],
  [],
  [],
  [],
  [],
  [(183, 16777215, 587), (323, -2147483648, 911)],
  [(162, -2147483648, 1138)],
  [],
  [(265, 1431655765, 668), (266, 858993459, 669), (267, 252645135, 670)],
  [],
  []]
def sg_il (o i : Nat) : Option (Int32 × Nat) := ((sg_IT.getD o []).find? (fun e => e.1 == i)).map (fun e => e.2)
def sg_JT : List (List (Nat × Int64 × Nat)) := [
  [],
  [],
  [],
  [],
  [],
  [],
  [],
  [],
  [],
  [(349, 17, 943), (351, 31, 944)],
  [(138, 3, 1110), (148, 2, 1114), (163, 23, 1150), (171, 400, 1154), (183, 5, 1175), (197, 255, 1198), (205, 48, 1219), (207, 57, 1220), (209, 55, 1221), (223, 100, 1229), (225, 300, 1230), (230, 16777215, 1239), (275, 40, 1244), (280, 39, 1292), (301, 9999, 1345), (306, -1, 1354), (323, 600, 1395), (325, 17, 1412), (327, 31, 1413)],
  [],
  [],
  [],
  []]
def sg_jl (o i : Nat) : Option (Int64 × Nat) := ((sg_JT.getD o []).find? (fun e => e.1 == i)).map (fun e => e.2)
/-- static arrays: own, entry, number, place, by nest -/
def sg_GT : List (Nat × Nat × Nat × Nat × Nat) := [(9, 110, 0, 504, 0), (9, 113, 1, 506, 0), (1, 18, 2, 95, 1)]
def sg_gl (o i : Nat) : Option (Nat × Nat × Nat) := (sg_GT.find? (fun e => e.1 == o && e.2.1 == i)).map (fun e => e.2.2)
/-- the shapes of the cells: 0 object (kind), 1 ints (length), 2 booleans (length), 3 references (length); where the references go -/
def sg_SH : List (Nat × Nat × List Nat) := [
  (0, 9, [1, 44, 48, 64, 80, 83, 86]),
  (0, 1, [2, 3, 4, 0, 0, 0, 5, 6, 7, 8, 0, 9, 10, 11, 12, 13, 0]),
  (1, 24, []),
  (1, 24, []),
  (1, 6, []),
  (1, 6, []),
  (1, 6, []),
  (1, 6, []),
  (3, 6, [14, 19, 24, 29, 34, 39]),
  (1, 8, []),
  (1, 8, []),
  (1, 8, []),
  (1, 8, []),
  (1, 8, []),
  (0, 2, [0, 0, 15, 16, 17, 18, 0, 0, 0]),
  (2, 7, []),
  (1, 7, []),
  (1, 7, []),
  (2, 7, []),
  (0, 2, [0, 0, 20, 21, 22, 23, 0, 0, 0]),
  (2, 7, []),
  (1, 7, []),
  (1, 7, []),
  (2, 7, []),
  (0, 2, [0, 0, 25, 26, 27, 28, 0, 0, 0]),
  (2, 7, []),
  (1, 7, []),
  (1, 7, []),
  (2, 7, []),
  (0, 2, [0, 0, 30, 31, 32, 33, 0, 0, 0]),
  (2, 7, []),
  (1, 7, []),
  (1, 7, []),
  (2, 7, []),
  (0, 2, [0, 0, 35, 36, 37, 38, 0, 0, 0]),
  (2, 7, []),
  (1, 7, []),
  (1, 7, []),
  (2, 7, []),
  (0, 2, [0, 0, 40, 41, 42, 43, 0, 0, 0]),
  (2, 7, []),
  (1, 7, []),
  (1, 7, []),
  (2, 7, []),
  (0, 7, [0, 45, 46, 47]),
  (1, 4, []),
  (1, 4, []),
  (1, 240, []),
  (0, 0, [49, 53, 54, 55, 56, 57, 58, 59, 0, 0, 0, 1, 60, 61, 62, 63]),
  (0, 3, [50, 51, 52, 0, 0]),
  (1, 6, []),
  (1, 8, []),
  (1, 8, []),
  (1, 984, []),
  (1, 984, []),
  (1, 320, []),
  (1, 240, []),
  (1, 240, []),
  (1, 6, []),
  (1, 6, []),
  (1, 8, []),
  (1, 48, []),
  (1, 24, []),
  (1, 24, []),
  (0, 0, [65, 69, 70, 71, 72, 73, 74, 75, 0, 0, 0, 1, 76, 77, 78, 79]),
  (0, 3, [66, 67, 68, 0, 0]),
  (1, 6, []),
  (1, 8, []),
  (1, 8, []),
  (1, 984, []),
  (1, 984, []),
  (1, 320, []),
  (1, 240, []),
  (1, 240, []),
  (1, 6, []),
  (1, 6, []),
  (1, 8, []),
  (1, 48, []),
  (1, 24, []),
  (1, 24, []),
  (0, 4, [0, 81, 82]),
  (1, 36, []),
  (1, 36, []),
  (0, 6, [0, 0, 84, 85]),
  (1, 64, []),
  (1, 64, []),
  (0, 5, [0, 0, 87, 88, 0]),
  (1, 5, []),
  (1, 5, []),
  (0, 10, [90, 91, 92, 93, 0, 94, 95, 96, 97, 0, 98, 99, 100, 101, 102, 0, 103, 104, 105, 106, 107, 0, 108, 109, 110, 111, 112, 113, 114, 115, 116, 117, 0, 118, 119, 120, 121, 0, 0, 0, 0, 0, 0, 0, 122, 123, 124, 125, 126]),
  (1, 4, []),
  (1, 4, []),
  (1, 240, []),
  (1, 60, []),
  (1, 48, []),
  (2, 24, []),
  (2, 24, []),
  (1, 6, []),
  (1, 6, []),
  (1, 6, []),
  (1, 6, []),
  (1, 240, []),
  (1, 6, []),
  (1, 6, []),
  (1, 60, []),
  (1, 60, []),
  (1, 60, []),
  (2, 60, []),
  (1, 8, []),
  (1, 8, []),
  (1, 8, []),
  (1, 8, []),
  (1, 8, []),
  (1, 984, []),
  (1, 984, []),
  (1, 320, []),
  (2, 240, []),
  (1, 240, []),
  (1, 8, []),
  (1, 48, []),
  (1, 24, []),
  (1, 192, []),
  (1, 6, []),
  (1, 6, []),
  (1, 6, []),
  (1, 6, []),
  (1, 6, []),
  (0, 8, [0, 0, 0, 0])]
def sg_sh (k : Nat) : Nat × Nat × List Nat := sg_SH.getD k (9, 0, [])
def sg_kd (k : Nat) : Nat := (sg_sh k).1
def sg_ag (k : Nat) : Nat := (sg_sh k).2.1
def sg_rf (k j : Nat) : Nat := (sg_sh k).2.2.getD j 0
/-- which fields are references -/
def sg_RB : List (List Bool) := [[true, true, true, true, true, true, true, true, false, false, false, true, true, true, true, true], [true, true, true, false, false, false, true, true, true, true, false, true, true, true, true, true, false], [false, false, true, true, true, true, false, false, false], [true, true, true, false, false], [false, true, true], [false, false, true, true, false], [false, false, true, true], [false, true, true, true], [false, false, false, false], [true, true, true, true, true, true, true], [true, true, true, true, false, true, true, true, true, false, true, true, true, true, true, false, true, true, true, true, true, false, true, true, true, true, true, true, true, true, true, true, false, true, true, true, true, false, false, false, false, false, false, false, true, true, true, true, true]]
def sg_rb (c j : Nat) : Bool := (sg_RB.getD c []).getD j false
def sg_nf (c : Nat) : Nat := (sg_RB.getD c []).length
/-- which fields are final -/
def sg_FB : List (List Bool) := [[true, true, true, true, true, true, true, true, false, false, false, true, true, true, true, true], [true, true, true, false, false, false, true, true, true, true, false, true, true, true, true, true, false], [false, false, true, true, true, true, false, false, false], [true, true, true, false, false], [false, true, true], [false, false, true, true, false], [false, false, true, true], [false, true, true, true], [false, false, false, false], [true, true, true, true, true, true, true], [true, true, true, true, false, true, true, true, true, false, true, true, true, true, true, false, true, true, true, true, true, false, true, true, true, true, true, true, true, true, true, true, false, true, true, true, true, false, false, false, false, false, false, false, true, true, true, true, true]]
def sg_fb (c j : Nat) : Bool := (sg_FB.getD c []).getD j false
/-- places: code, instance or static, selects, initialized -/
def sg_PT : List (Nat × Nat × Nat × Nat) := [(261, 260, 0, 71), (606, 604, 605, 71), (610, 608, 609, 71), (616, 614, 615, 71), (620, 619, 10, 71), (625, 624, 11, 71), (633, 632, 13, 71), (629, 628, 12, 71), (637, 636, 14, 71), (643, 642, 15, 71), (647, 646, 16, 71), (651, 650, 17, 71), (655, 654, 18, 71), (659, 658, 19, 71), (664, 663, 20, 71), (674, 673, 21, 71), (680, 679, 22, 71), (716, 714, 715, 71), (93, 92, 0, 67), (495, 493, 494, 67), (499, 497, 498, 67), (938, 936, 937, 67), (744, 742, 743, 67), (112, 111, 0, 69), (559, 557, 558, 69), (527, 525, 526, 69), (567, 565, 566, 69), (531, 530, 1, 69), (535, 534, 2, 69), (539, 538, 3, 69), (543, 542, 4, 69), (547, 546, 5, 69), (551, 550, 6, 69), (267, 266, 0, 72), (599, 597, 598, 72), (359, 358, 0, 73), (401, 400, 0, 75), (767, 765, 766, 75), (772, 770, 771, 75), (777, 775, 776, 75), (781, 780, 29, 75), (378, 377, 0, 74), (755, 753, 754, 74), (240, 239, 0, 70), (461, 460, 0, 70), (871, 870, 0, 70), (470, 468, 469, 70), (466, 464, 465, 70), (474, 472, 473, 70), (481, 479, 480, 70), (906, 904, 905, 70), (875, 873, 874, 70), (889, 887, 888, 70), (897, 895, 896, 70), (919, 917, 918, 70), (902, 900, 901, 70), (924, 922, 923, 70), (840, 839, 0, 80), (858, 856, 857, 80), (864, 862, 863, 80), (85, 84, 0, 66), (448, 446, 447, 66), (458, 456, 457, 66), (485, 483, 484, 66), (503, 501, 502, 66), (511, 509, 510, 66), (515, 513, 514, 66), (523, 521, 522, 66), (555, 553, 554, 66), (563, 561, 562, 66), (571, 569, 570, 66), (578, 576, 577, 66), (591, 589, 590, 66), (684, 682, 683, 66), (691, 689, 690, 66), (695, 693, 694, 66), (699, 697, 698, 66), (703, 701, 702, 66), (712, 710, 711, 66), (720, 718, 719, 66), (728, 726, 727, 66), (740, 738, 739, 66), (759, 757, 758, 66), (785, 783, 784, 66), (793, 791, 792, 66), (797, 795, 796, 66), (816, 814, 815, 66), (825, 823, 824, 66), (831, 829, 830, 66), (868, 866, 867, 66), (885, 883, 884, 66), (893, 891, 892, 66), (910, 908, 909, 66), (915, 913, 914, 66), (929, 927, 928, 66), (933, 931, 932, 66), (942, 940, 941, 66), (948, 947, 0, 66), (454, 453, 0, 66), (451, 450, 0, 66), (491, 490, 0, 66), (687, 686, 0, 66), (574, 573, 0, 66), (751, 750, 0, 66), (519, 518, 0, 66), (582, 581, 7, 66), (789, 788, 30, 66), (586, 585, 8, 66), (595, 594, 9, 66), (707, 706, 23, 66), (724, 723, 24, 66), (732, 731, 25, 66), (736, 735, 26, 66), (748, 747, 27, 66), (763, 762, 28, 66), (801, 800, 31, 66), (805, 804, 32, 66), (812, 811, 33, 66), (821, 820, 34, 66), (835, 834, 35, 66), (953, 952, 0, 76), (1113, 1112, 0, 76), (1118, 1117, 36, 76), (1109, 1108, 0, 76), (1106, 1104, 1105, 76), (1122, 1120, 1121, 76), (1130, 1129, 37, 76), (1133, 1132, 0, 76), (1126, 1124, 1125, 76), (1137, 1135, 1136, 76), (1142, 1140, 1141, 76), (1162, 1161, 38, 76), (1149, 1148, 0, 76), (1153, 1152, 0, 76), (1146, 1144, 1145, 76), (1158, 1156, 1157, 76), (1170, 1169, 0, 76), (1167, 1165, 1166, 76), (1178, 1177, 0, 76), (1181, 1180, 0, 76), (1174, 1172, 1173, 76), (1193, 1192, 39, 76), (1185, 1183, 1184, 76), (1189, 1187, 1188, 76), (1197, 1195, 1196, 76), (1202, 1200, 1201, 76), (1218, 1217, 42, 76), (1214, 1213, 41, 76), (1210, 1209, 40, 76), (1206, 1204, 1205, 76), (1238, 1237, 43, 76), (1366, 1365, 61, 76), (1228, 1227, 0, 76), (1225, 1223, 1224, 76), (1234, 1232, 1233, 76), (1268, 1267, 49, 76), (1260, 1259, 47, 76), (1256, 1255, 46, 76), (1280, 1279, 52, 76), (1276, 1275, 51, 76), (1272, 1271, 50, 76), (1264, 1263, 48, 76), (1284, 1283, 53, 76), (1252, 1251, 45, 76), (1248, 1247, 44, 76), (1243, 1241, 1242, 76), (1291, 1290, 0, 76), (1288, 1286, 1287, 76), (1296, 1294, 1295, 76), (1304, 1303, 54, 76), (1312, 1311, 55, 76), (1300, 1298, 1299, 76), (1308, 1306, 1307, 76), (1320, 1319, 56, 76), (1316, 1314, 1315, 76), (1324, 1322, 1323, 76), (1332, 1331, 57, 76), (1328, 1326, 1327, 76), (1340, 1339, 58, 76), (1336, 1334, 1335, 76), (1349, 1348, 59, 76), (1344, 1342, 1343, 76), (1358, 1357, 60, 76), (1353, 1351, 1352, 76), (1362, 1360, 1361, 76), (1370, 1368, 1369, 76), (1378, 1377, 62, 76), (1386, 1385, 64, 76), (1382, 1381, 63, 76), (1374, 1372, 1373, 76), (1390, 1388, 1389, 76), (1394, 1392, 1393, 76), (1399, 1397, 1398, 76), (1403, 1401, 1402, 76), (1407, 1405, 1406, 76), (1411, 1409, 1410, 76), (808, 807, 0, 79), (667, 666, 0, 79), (488, 487, 0, 77), (477, 476, 0, 77), (881, 880, 0, 68), (108, 107, 0, 68), (878, 877, 0, 68), (0, 0, 0, 0)]
def sg_pt (m : Nat) : Nat × Nat × Nat × Nat := sg_PT.getD m (0, 0, 0, 0)
end
section
/-! a plain machine over the fixed shapes: cells by number, ints by cell and slot -/
abbrev sg_X : Type := Nat × (Nat → Int32)
/-- the static arrays that nobody writes, and the script -/
def sg_ro (X : sg_X) (i : Nat) : sg_X := match i with
  | 0 => (6, fun j => [-200, 0, 0, 0, 0, 1].getD j 0)
  | 1 => (6, fun j => [400, 20, 20, 30, 20, 60].getD j 0)
  | 2 => (6, fun j => [100, 10, 5, 10, 5, 3].getD j 0)
  | _ => X
abbrev sg_in (i : Int32) (n : Nat) : Prop := 0 ≤ i.toInt ∧ i.toInt < (n : Int)
def sg_up (σ : sg_S) (k j : Nat) (v : Int32) : sg_S := va_up σ k (va_up (σ k) j v)
def sg_lk (lk : Nat → Nat → Bool) (k j : Nat) : Nat → Nat → Bool := va_up lk k (va_up (lk k) j true)
abbrev sg_wv (n : Nat) (v : Value) : Bool := match v with
  | .ref k => decide (k < n) || decide (1000 ≤ k)
  | .double _ => false
  | _ => true
/-- a store of a value of one word, of two -/
def sg_kill (ls : sg_L) (k : Nat) : sg_L := match k with
  | 0 => ls
  | k + 1 => match ls[k]? with
    | some (some v) => if v.category = 2 then ls.set k none else ls
    | _ => ls
def sg_s1 (ls : sg_L) (k : Nat) (v : Value) : sg_L := (sg_kill ls k).set k (some v)
def sg_s2 (ls : sg_L) (k : Nat) (v : Value) : sg_L := ((sg_kill ls k).set (k + 1) none).set k (some v)
abbrev sg_nx (pc : Nat) (ls : sg_L) (st : List Value) (z : sg_Z) (σ : sg_S) : Option sg_R := some (.inl (pc, ls, st, z, σ))
abbrev sg_ldi (ls : sg_L) (k pc : Nat) (st : List Value) (z : sg_Z) (σ : sg_S) : Option sg_R := match ls[k]? with
  | some (some (.int x)) => sg_nx pc ls (.int x :: st) z σ
  | _ => none
abbrev sg_ldl (ls : sg_L) (k pc : Nat) (st : List Value) (z : sg_Z) (σ : sg_S) : Option sg_R := match ls[k]? with
  | some (some (.long x)) => sg_nx pc ls (.long x :: st) z σ
  | _ => none
abbrev sg_lda (ls : sg_L) (k pc : Nat) (st : List Value) (z : sg_Z) (σ : sg_S) : Option sg_R := match ls[k]? with
  | some (some (.ref x)) => sg_nx pc ls (.ref x :: st) z σ
  | _ => none
abbrev sg_sti (ls : sg_L) (k nL pc : Nat) (st : List Value) (z : sg_Z) (σ : sg_S) : Option sg_R := match st with
  | .int x :: r => if k < nL then sg_nx pc (sg_s1 ls k (.int x)) r z σ else none
  | _ => none
abbrev sg_stl (ls : sg_L) (k nL pc : Nat) (st : List Value) (z : sg_Z) (σ : sg_S) : Option sg_R := match st with
  | .long x :: r => if k + 1 < nL then sg_nx pc (sg_s2 ls k (.long x)) r z σ else none
  | _ => none
abbrev sg_sta (ls : sg_L) (k nL pc : Nat) (st : List Value) (z : sg_Z) (σ : sg_S) : Option sg_R := match st with
  | .ref x :: r => if k < nL then sg_nx pc (sg_s1 ls k (.ref x)) r z σ else none
  | _ => none
abbrev sg_i2 (g : Int32 → Int32 → Int32) (pc : Nat) (ls : sg_L) (st : List Value) (z : sg_Z) (σ : sg_S) : Option sg_R := match st with
  | .int y :: .int x :: r => sg_nx pc ls (.int (g x y) :: r) z σ
  | _ => none
abbrev sg_i1 (g : Int32 → Int32) (pc : Nat) (ls : sg_L) (st : List Value) (z : sg_Z) (σ : sg_S) : Option sg_R := match st with
  | .int x :: r => sg_nx pc ls (.int (g x) :: r) z σ
  | _ => none
abbrev sg_l2 (g : Int64 → Int64 → Int64) (pc : Nat) (ls : sg_L) (st : List Value) (z : sg_Z) (σ : sg_S) : Option sg_R := match st with
  | .long y :: .long x :: r => sg_nx pc ls (.long (g x y) :: r) z σ
  | _ => none
def sg_cmp (c : ClassFile.Cond) (x y : Int32) : Bool := match c with
  | .eq => decide (x = y)
  | .ne => !decide (x = y)
  | .lt => decide (x < y)
  | .ge => decide (y ≤ x)
  | .gt => decide (y < x)
  | .le => decide (x ≤ y)
abbrev sg_tg (pc : Nat) (off : Int) : Nat := ((pc : Int) + off).toNat
/-- a jump: its target isn't before the first byte -/
abbrev sg_jp (b : Bool) (pc : Nat) (off : Int) (ls : sg_L) (st : List Value) (z : sg_Z) (σ : sg_S) : Option sg_R :=
  if 0 ≤ (pc : Int) + off then some (.inl (cond b (sg_tg pc off) (pc + 3), ls, st, z, σ)) else none
abbrev sg_wds (st : List Value) : Nat := (st.map fun v => v.category).sum
/-- the room that a call wants -/
abbrev sg_rm (m y : Nat) : Prop := sg_fr y + 1 ≤ sg_fr m ∧ 8 + (sg_ml y + 11) + sg_lo y ≤ sg_lo m ∧ y < 203
def sg_st (X : sg_X) (m : Nat) (i : Instr) (pc : Nat) (ls : sg_L) (st : List Value) (z : sg_Z) (σ : sg_S) : Option sg_R :=
  match i with
  | .iconst k => sg_nx (pc + 1) ls (.int (Int32.ofInt k) :: st) z σ
  | .bipush k => sg_nx (pc + 2) ls (.int (Int8.ofInt k).toInt32 :: st) z σ
  | .sipush k => sg_nx (pc + 3) ls (.int (Int16.ofInt k).toInt32 :: st) z σ
  | .lconst k => sg_nx (pc + 1) ls (.long (Int64.ofNat k) :: st) z σ
  | .ldc k => match sg_il (sg_mo m) k with
    | some e => sg_nx (pc + 2) ls (.int e.1 :: st) z σ
    | _ => none
  | .ldc_w k => match sg_il (sg_mo m) k with
    | some e => sg_nx (pc + 3) ls (.int e.1 :: st) z σ
    | _ => none
  | .ldc2_w k => match sg_jl (sg_mo m) k with
    | some e => sg_nx (pc + 3) ls (.long e.1 :: st) z σ
    | _ => none
  | .iload k => sg_ldi ls k (pc + 2) st z σ
  | .iload_n k => sg_ldi ls k.val (pc + 1) st z σ
  | .lload k => sg_ldl ls k (pc + 2) st z σ
  | .lload_n k => sg_ldl ls k.val (pc + 1) st z σ
  | .aload k => sg_lda ls k (pc + 2) st z σ
  | .aload_n k => sg_lda ls k.val (pc + 1) st z σ
  | .istore k => sg_sti ls k (sg_ml m) (pc + 2) st z σ
  | .istore_n k => sg_sti ls k.val (sg_ml m) (pc + 1) st z σ
  | .lstore k => sg_stl ls k (sg_ml m) (pc + 2) st z σ
  | .lstore_n k => sg_stl ls k.val (sg_ml m) (pc + 1) st z σ
  | .astore k => sg_sta ls k (sg_ml m) (pc + 2) st z σ
  | .astore_n k => sg_sta ls k.val (sg_ml m) (pc + 1) st z σ
  | .iinc k c => match ls[k]? with
    | some (some (.int x)) => if k < sg_ml m then sg_nx (pc + 3) (sg_s1 ls k (.int (x + Int32.ofInt c))) st z σ else none
    | _ => none
  | .iadd => sg_i2 (fun x y => x + y) (pc + 1) ls st z σ
  | .isub => sg_i2 (fun x y => x - y) (pc + 1) ls st z σ
  | .imul => sg_i2 (fun x y => x * y) (pc + 1) ls st z σ
  | .iand => sg_i2 (fun x y => x &&& y) (pc + 1) ls st z σ
  | .ior => sg_i2 (fun x y => x ||| y) (pc + 1) ls st z σ
  | .ixor => sg_i2 (fun x y => x ^^^ y) (pc + 1) ls st z σ
  | .ishl => sg_i2 (fun x y => x <<< (y &&& 31)) (pc + 1) ls st z σ
  | .ishr => sg_i2 (fun x y => x >>> (y &&& 31)) (pc + 1) ls st z σ
  | .iushr => sg_i2 (fun x y => (x.toUInt32 >>> (y.toUInt32 &&& Int32.toUInt32 31)).toInt32) (pc + 1) ls st z σ
  | .idiv => match st with
    | .int y :: .int x :: r => if ¬ y = 0 then sg_nx (pc + 1) ls (.int (x / y) :: r) z σ else none
    | _ => none
  | .irem => match st with
    | .int y :: .int x :: r => if ¬ y = 0 then sg_nx (pc + 1) ls (.int (x - x / y * y) :: r) z σ else none
    | _ => none
  | .ineg => sg_i1 (fun x => -x) (pc + 1) ls st z σ
  | .i2b => sg_i1 (fun x => x.toInt8.toInt32) (pc + 1) ls st z σ
  | .i2s => sg_i1 (fun x => x.toInt16.toInt32) (pc + 1) ls st z σ
  | .i2l => match st with
    | .int x :: r => sg_nx (pc + 1) ls (.long x.toInt64 :: r) z σ
    | _ => none
  | .ladd => sg_l2 (fun x y => x + y) (pc + 1) ls st z σ
  | .lmul => sg_l2 (fun x y => x * y) (pc + 1) ls st z σ
  | .lcmp => match st with
    | .long y :: .long x :: r => sg_nx (pc + 1) ls (.int (lg_cmp x y) :: r) z σ
    | _ => none
  | .pop => match st with
    | v :: r => if v.category = 1 then sg_nx (pc + 1) ls r z σ else none
    | _ => none
  | .dup => match st with
    | v :: r => if v.category = 1 then sg_nx (pc + 1) ls (v :: v :: r) z σ else none
    | _ => none
  | .dup2 => match st with
    | v :: w :: r => if v.category = 1 ∧ w.category = 1 then sg_nx (pc + 1) ls (v :: w :: v :: w :: r) z σ else none
    | _ => none
  | .goto off => if 0 ≤ (pc : Int) + off then sg_nx (sg_tg pc off) ls st z σ else none
  | .ifCond c off => match st with
    | .int x :: r => sg_jp (sg_cmp c x 0) pc off ls r z σ
    | _ => none
  | .if_icmp c off => match st with
    | .int y :: .int x :: r => sg_jp (sg_cmp c x y) pc off ls r z σ
    | _ => none
  | .tableswitch d lo hi offs => match st with
    | .int x :: r => if x.toInt < lo ∨ hi < x.toInt then (if 0 ≤ (pc : Int) + d then sg_nx (sg_tg pc d) ls r z σ else none) else
      match offs[(x.toInt - lo).toNat]? with
      | some off => if 0 ≤ (pc : Int) + off then sg_nx (sg_tg pc off) ls r z σ else none
      | none => none
    | _ => none
  | .getfield k => match st with
    | .ref a :: r => match sg_fl (sg_mo m) k with
      | some (ci, j, _) => if a < z.1 ∧ sg_kd a = 0 ∧ sg_ag a = ci then
          (if sg_rb ci j = true then (if z.2.2.2 a j = true ∧ sg_rf a j < z.1 then sg_nx (pc + 3) ls (.ref (sg_rf a j) :: r) z σ else none)
           else sg_nx (pc + 3) ls (.int (σ a j) :: r) z σ) else none
      | none => none
    | _ => none
  | .putfield k => match st with
    | .int v :: .ref a :: r => match sg_fl (sg_mo m) k with
      | some (ci, j, _) => if a < z.1 ∧ sg_kd a = 0 ∧ sg_ag a = ci ∧ sg_rb ci j = false ∧ sg_fb ci j = false then sg_nx (pc + 3) ls r z (sg_up σ a j v) else none
      | none => none
    | .ref b :: .ref a :: r => match sg_fl (sg_mo m) k with
      | some (ci, j, _) => if a < z.1 ∧ sg_kd a = 0 ∧ sg_ag a = ci ∧ sg_rb ci j = true ∧ sg_fb ci j = true ∧ b = sg_rf a j ∧ b < z.1 ∧ (sg_my m).name = "<init>" ∧ sg_mo m = ci then sg_nx (pc + 3) ls r (z.1, z.2.1, z.2.2.1, sg_lk z.2.2.2 a j) σ else none
      | none => none
    | _ => none
  | .getstatic k => match sg_gl (sg_mo m) k with
    | some (q, _) => if q < 3 then sg_nx (pc + 3) ls (.ref (1000 + q) :: st) z σ else none
    | none => none
  | .iaload => match st with
    | .int i :: .ref a :: r => if 1000 ≤ a then (if a < 1004 ∧ sg_in i (sg_ro X (a - 1000)).1 then sg_nx (pc + 1) ls (.int ((sg_ro X (a - 1000)).2 i.toNatClampNeg) :: r) z σ else none)
      else if a < z.1 ∧ sg_kd a = 1 ∧ sg_in i (sg_ag a) then sg_nx (pc + 1) ls (.int (σ a i.toNatClampNeg) :: r) z σ else none
    | _ => none
  | .iastore => match st with
    | .int v :: .int i :: .ref a :: r => if a < z.1 ∧ sg_kd a = 1 ∧ sg_in i (sg_ag a) then sg_nx (pc + 1) ls r z (sg_up σ a i.toNatClampNeg v) else none
    | _ => none
  | .baload => match st with
    | .int i :: .ref a :: r => if a < z.1 ∧ sg_kd a = 2 ∧ sg_in i (sg_ag a) then sg_nx (pc + 1) ls (.int (σ a i.toNatClampNeg) :: r) z σ else none
    | _ => none
  | .bastore => match st with
    | .int v :: .int i :: .ref a :: r => if a < z.1 ∧ sg_kd a = 2 ∧ sg_in i (sg_ag a) ∧ (v = 0 ∨ v = 1) then sg_nx (pc + 1) ls r z (sg_up σ a i.toNatClampNeg v) else none
    | _ => none
  | .aaload => match st with
    | .int i :: .ref a :: r => if a < z.1 ∧ sg_kd a = 3 ∧ sg_in i (sg_ag a) ∧ z.2.2.2 a i.toNatClampNeg = true ∧ sg_rf a i.toNatClampNeg < z.1 then sg_nx (pc + 1) ls (.ref (sg_rf a i.toNatClampNeg) :: r) z σ else none
    | _ => none
  | .aastore => match st with
    | .ref b :: .int i :: .ref a :: r => if a < z.1 ∧ sg_kd a = 3 ∧ sg_in i (sg_ag a) ∧ b = sg_rf a i.toNatClampNeg ∧ b < z.1 ∧ sg_kd b = 0 ∧ sg_ag b = 2 then sg_nx (pc + 1) ls r (z.1, z.2.1, z.2.2.1, sg_lk z.2.2.2 a i.toNatClampNeg) σ else none
    | _ => none
  | .arraylength => match st with
    | .ref a :: r => if 1000 ≤ a then (if a < 1004 then sg_nx (pc + 1) ls (.int (Int32.ofNat (sg_ro X (a - 1000)).1) :: r) z σ else none)
      else if a < z.1 ∧ sg_kd a = 1 then sg_nx (pc + 1) ls (.int (Int32.ofNat (sg_ag a)) :: r) z σ else none
    | _ => none
  | .new k => match sg_nl (sg_mo m) k with
    | some (ci, _) => if z.1 < 1000 ∧ sg_kd z.1 = 0 ∧ sg_ag z.1 = ci ∧ (List.range (sg_nf ci)).all (fun j => !(sg_rb ci j) || !(z.2.2.2 z.1 j)) = true then
        sg_nx (pc + 3) ls (.ref z.1 :: st) (z.1 + 1, z.2.1 + 1, z.2.2.1 + sg_nf ci, z.2.2.2) (va_up σ z.1 (fun _ => 0)) else none
    | none => none
  | .newarray t => match st with
    | .int c :: r => if z.1 < 1000 ∧ ((t = .int ∧ sg_kd z.1 = 1) ∨ (t = .boolean ∧ sg_kd z.1 = 2)) ∧ 0 ≤ c.toInt ∧ c.toInt = sg_ag z.1 ∧ sg_ag z.1 ≤ 1000 then
        sg_nx (pc + 2) ls (.ref z.1 :: r) (z.1 + 1, z.2.1 + 1, z.2.2.1 + sg_ag z.1, z.2.2.2) (va_up σ z.1 (fun _ => 0)) else none
    | _ => none
  | .anewarray k => match st with
    | .int c :: r => match sg_nl (sg_mo m) k with
      | some (ci, _) => if z.1 < 1000 ∧ ci = 2 ∧ sg_kd z.1 = 3 ∧ 0 ≤ c.toInt ∧ c.toInt = sg_ag z.1 ∧ sg_ag z.1 ≤ 1000 ∧ (List.range (sg_ag z.1)).all (fun j => !(z.2.2.2 z.1 j)) = true then
          sg_nx (pc + 3) ls (.ref z.1 :: r) (z.1 + 1, z.2.1 + 1, z.2.2.1 + sg_ag z.1, z.2.2.2) σ else none
      | none => none
    | _ => none
  | .checkcast k => match st with
    | .ref a :: r => if sg_mo m = 1 ∧ k = 22 ∧ a < z.1 ∧ sg_kd a = 1 then sg_nx (pc + 3) ls (.ref a :: r) z σ else none
    | _ => none
  | .invokestatic k => match sg_kl (sg_mo m) k with
    | some (7, _, _) => match st with
      | .int c :: .int dp :: .ref d :: .int sp :: .ref s :: r =>
        if s < z.1 ∧ d < z.1 ∧ sg_kd s = 1 ∧ sg_kd d = 1 ∧ 0 ≤ sp.toInt ∧ 0 ≤ dp.toInt ∧ 0 ≤ c.toInt ∧ sp.toInt + c.toInt ≤ sg_ag s ∧ dp.toInt + c.toInt ≤ sg_ag d ∧ sg_wds r ≤ 8 ∧ 1 ≤ sg_fr m ∧ 30 ≤ sg_lo m then
          sg_nx (pc + 3) ls r z (va_up σ d (va_cpy (σ s) (σ d) sp.toNatClampNeg dp.toNatClampNeg c.toNatClampNeg)) else none
      | _ => none
    | some (kd, y, _) => if (kd = 1 ∨ kd = 4) ∧ sg_ac y ≤ st.length ∧ sg_wds (st.drop (sg_ac y)) ≤ 8 ∧ sg_rm m y then some (.inr (.inl (y, (st.take (sg_ac y)).reverse, false, pc + 3, ls, st.drop (sg_ac y)))) else none
    | none => none
  | .invokevirtual k => match sg_kl (sg_mo m) k with
    | some (8, _, _) => match st with
      | .ref a :: r => if a = 1002 ∧ sg_mo m = 1 ∧ z.1 < 1000 ∧ sg_kd z.1 = 1 ∧ sg_ag z.1 = 6 ∧ sg_wds r ≤ 8 ∧ 1 ≤ sg_fr m ∧ 30 ≤ sg_lo m then
          sg_nx (pc + 3) ls (.ref z.1 :: r) (z.1 + 1, z.2.1 + 1, z.2.2.1 + 6, z.2.2.2) (va_up σ z.1 (sg_ro X 2).2) else none
      | _ => none
    | some (kd, y, _) => if kd = 2 ∧ sg_ac y ≤ st.length ∧ sg_wds (st.drop (sg_ac y)) ≤ 8 ∧ sg_rm m y then
        match (st.take (sg_ac y)).reverse with
        | .ref a :: as => if a < z.1 ∧ sg_kd a = 0 ∧ sg_ag a = sg_mo y then some (.inr (.inl (y, .ref a :: as, false, pc + 3, ls, st.drop (sg_ac y)))) else none
        | _ => none
      else none
    | none => none
  | .invokespecial k => match sg_kl (sg_mo m) k with
    | some (6, _, _) => match st with
      | .ref a :: r => if sg_wds r ≤ 8 ∧ 1 ≤ sg_fr m ∧ 30 ≤ sg_lo m then sg_nx (pc + 3) ls r z σ else none
      | _ => none
    | some (kd, y, _) => if (kd = 3 ∨ kd = 5) ∧ sg_ac y ≤ st.length ∧ sg_wds (st.drop (sg_ac y)) ≤ 8 ∧ sg_rm m y then
        match (st.take (sg_ac y)).reverse with
        | .ref a :: as => some (.inr (.inl (y, .ref a :: as, true, pc + 3, ls, st.drop (sg_ac y))))
        | _ => none
      else none
    | none => none
  | .ireturn => match st, sg_mr m with
    | [.int v], some .int => some (.inr (.inr (some (.int v))))
    | [.int v], some .boolean => if v = 0 ∨ v = 1 then some (.inr (.inr (some (.int v)))) else none
    | _, _ => none
  | .lreturn => match st, sg_mr m with
    | [.long v], some .long => some (.inr (.inr (some (.long v))))
    | _, _ => none
  | .areturn => match st, sg_mr m with
    | [.ref a], some (.object _) => some (.inr (.inr (some (.ref a))))
    | _, _ => none
  | .return_ => match st, sg_mr m with
    | [], none => some (.inr (.inr none))
    | _, _ => none
  | _ => none
/-- how long an instruction is -/
def sg_ln (i : Instr) (n : Nat) : Bool := match i with
  | .bipush _ | .ldc _ | .iload _ | .lload _ | .aload _ | .istore _ | .lstore _ | .astore _ | .newarray _ => n == 2
  | .sipush _ | .ldc_w _ | .ldc2_w _ | .iinc _ _ | .goto _ | .ifCond _ _ | .if_icmp _ _ | .getfield _ | .putfield _ | .getstatic _ | .new _ | .anewarray _ | .checkcast _ | .invokestatic _ | .invokevirtual _ | .invokespecial _ => n == 3
  | .tableswitch _ _ _ _ => true
  | _ => n == 1
/-- a method's first locals -/
def sg_e1 (v : Value) : List (Option Value) := match v with
  | .long x => [some (.long x), none]
  | v => [some v]
def sg_en (as : List Value) (n : Nat) : sg_L := as.flatMap sg_e1 ++ List.replicate (n - (as.flatMap sg_e1).length) none
/-- a slot that holds a reference -/
def sg_is (k j : Nat) : Bool := (decide (sg_kd k = 0) && sg_rb (sg_ag k) j) || (decide (sg_kd k = 3) && decide (j < sg_ag k))
/-- the cells before n know those before n alone -/
def sg_lic (n : Nat) (lk : Nat → Nat → Bool) : Bool := (List.range n).all fun k => (List.range 49).all fun j => !(lk k j) || (!(sg_is k j) || decide (sg_rf k j < n))
def sg_ex (X : sg_X) : Nat → Nat → Nat → sg_L → List Value → sg_Z → sg_S → Option (Option Value × sg_Z × sg_S)
  | 0, _, _, _, _, _, _ => none
  | f + 1, m, pc, ls, st, z, σ => match decode (sg_mc m) pc with
    | .ok (i, n) => if sg_ln i n = true then match sg_st X m i pc ls st z σ with
      | some (.inl (pc', ls', st', z', σ')) => sg_ex X f m pc' ls' st' z' σ'
      | some (.inr (.inl (y, as, keep, pc', ls', st'))) => match sg_ex X f y 0 (sg_en as (sg_ml y)) [] (z.1, 0, 0, z.2.2.2) σ with
        | some (r, z', σ') => if (r.all (sg_wv z.1)) = true ∧ z.1 ≤ z'.1 ∧ (keep || sg_lic z.1 z'.2.2.2) = true ∧ (as.flatMap sg_e1).length ≤ sg_ml y then
            sg_ex X f m pc' ls' (r.toList ++ st') (cond keep z'.1 z.1, z.2.1 + z'.2.1, z.2.2.1 + z'.2.2.1, z'.2.2.2) σ' else none
        | none => none
      | some (.inr (.inr r)) => some (r, z, σ)
      | none => none
      else none
    | _ => none
end
section
/-! the machine's heap holds the plain machine's cells -/
def sg_fv (ad : Nat → Nat) (lk : Nat → Nat → Bool) (σ : sg_S) (k j : Nat) : Value := if sg_rb (sg_ag k) j = true then (if lk k j = true then .ref (ad (sg_rf k j)) else .null) else .int (σ k j)
def sg_fs (ad : Nat → Nat) (lk : Nat → Nat → Bool) (σ : sg_S) (k : Nat) : List Value := (List.range (sg_nf (sg_ag k))).map (sg_fv ad lk σ k)
def sg_ra (ad : Nat → Nat) (lk : Nat → Nat → Bool) (k : Nat) : Nat → Option Nat := fun j => if j < sg_ag k ∧ lk k j = true then some (ad (sg_rf k j)) else none
abbrev sg_Ci : Type := ClassId × ClassId × ClassId
def sg_et (q : sg_Ci) (ad : Nat → Nat) (lk : Nat → Nat → Bool) (σ : sg_S) (k : Nat) : va_E :=
  if sg_kd k = 0 then .inr (sg_ag k, sg_fs ad lk σ k)
  else if sg_kd k = 1 then .inl (q.1, sg_ag k, .inl (σ k))
  else if sg_kd k = 2 then .inl (q.2.1, sg_ag k, .inl (σ k))
  else .inl (q.2.2, sg_ag k, .inr (.inr (.inr (.inr (sg_ra ad lk k)))))
def sg_wd (q : sg_Ci) (ad : Nat → Nat) (n : Nat) (lk : Nat → Nat → Bool) (σ : sg_S) : va_W := (List.range n).map (fun k => (ad k, sg_et q ad lk σ k))
theorem sg_wd_get {q : sg_Ci} {ad : Nat → Nat} {n : Nat} {lk : Nat → Nat → Bool} {σ : sg_S} {k : Nat} (h : k < n) : (sg_wd q ad n lk σ)[k]? = some (ad k, sg_et q ad lk σ k) := by
  simp [sg_wd, h]
theorem sg_wd_lt {q : sg_Ci} {ad : Nat → Nat} {n : Nat} {lk : Nat → Nat → Bool} {σ : sg_S} {k : Nat} {x : Nat × va_E} (h : (sg_wd q ad n lk σ)[k]? = some x) : k < n ∧ x = (ad k, sg_et q ad lk σ k) := by
  have hk : k < n := by
    have := (List.getElem?_eq_some_iff.mp h).1
    simpa [sg_wd] using this
  exact ⟨hk, by rw [sg_wd_get hk] at h; exact (Option.some.inj h).symm⟩
theorem sg_wd_set {q : sg_Ci} {ad : Nat → Nat} {n : Nat} {lk lk' : Nat → Nat → Bool} {σ σ' : sg_S} {k : Nat} {e : va_E} (h : k < n) (he : e = sg_et q ad lk' σ' k) (ho : ∀ j, j < n → j ≠ k → sg_et q ad lk' σ' j = sg_et q ad lk σ j) : (sg_wd q ad n lk σ).set k (ad k, e) = sg_wd q ad n lk' σ' := by
  apply List.ext_getElem?
  intro i
  by_cases hi : i < n
  · by_cases hik : i = k
    · subst hik
      rw [List.getElem?_set_self (by simpa [sg_wd] using hi), sg_wd_get hi, he]
    · rw [List.getElem?_set_ne (Ne.symm hik), sg_wd_get hi, sg_wd_get hi, ho i hi hik]
  · rw [List.getElem?_eq_none (by simpa [sg_wd] using hi), List.getElem?_eq_none (by simpa [sg_wd] using hi)]
theorem sg_wd_push {q : sg_Ci} {ad ad' : Nat → Nat} {n : Nat} {lk : Nat → Nat → Bool} {σ σ' : sg_S} {a : Nat} {e : va_E} (ha : ad' n = a) (he : sg_et q ad' lk σ' n = e) (ho : ∀ j, j < n → ad' j = ad j ∧ sg_et q ad' lk σ' j = sg_et q ad lk σ j) : sg_wd q ad n lk σ ++ [(a, e)] = sg_wd q ad' (n + 1) lk σ' := by
  unfold sg_wd
  rw [List.range_succ, List.map_append, List.map_singleton, ha, he]
  congr 1
  apply List.map_congr_left
  intro j hj
  have := ho j (List.mem_range.mp hj)
  rw [this.1, this.2]
theorem sg_wd_less {q : sg_Ci} {ad : Nat → Nat} {n n' : Nat} {lk : Nat → Nat → Bool} {σ : sg_S} (h : n ≤ n') {k : Nat} {x : Nat × va_E} (hk : (sg_wd q ad n lk σ)[k]? = some x) : (sg_wd q ad n' lk σ)[k]? = some x := by
  obtain ⟨h1, rfl⟩ := sg_wd_lt hk
  exact sg_wd_get (Nat.lt_of_lt_of_le h1 h)
theorem sg_kd_out {k : Nat} (h : 128 ≤ k) : sg_ag k = 0 := by
  have : sg_sh k = (9, 0, []) := by
    unfold sg_sh
    rw [List.getD_eq_getElem?_getD, List.getElem?_eq_none (by exact h)]
    rfl
  simp [sg_ag, this]
theorem sg_kd_all : ∀ k, k < 128 → sg_kd k = 0 ∨ sg_kd k = 1 ∨ sg_kd k = 2 ∨ sg_kd k = 3 := by decide +kernel
theorem sg_kd3 {k j : Nat} (h0 : ¬ sg_kd k = 0) (h1 : ¬ sg_kd k = 1) (h2 : ¬ sg_kd k = 2) (hj : j < sg_ag k) : sg_kd k = 3 := by
  by_cases hk : k < 128
  · rcases sg_kd_all k hk with h | h | h | h
    · exact absurd h h0
    · exact absurd h h1
    · exact absurd h h2
    · exact h
  · rw [sg_kd_out (by omega)] at hj
    omega
def sg_LI (n : Nat) (lk : Nat → Nat → Bool) : Prop := ∀ k j, k < n → lk k j = true → sg_is k j = true → sg_rf k j < n
theorem sg_et_ad {q : sg_Ci} {ad ad' : Nat → Nat} {n : Nat} {lk : Nat → Nat → Bool} {σ : sg_S} (hL : sg_LI n lk) (ha : ∀ j, j < n → ad' j = ad j) {k : Nat} (hk : k < n) : sg_et q ad' lk σ k = sg_et q ad lk σ k := by
  unfold sg_et
  by_cases h0 : sg_kd k = 0
  · have e : sg_fs ad' lk σ k = sg_fs ad lk σ k := by
      unfold sg_fs
      apply List.map_congr_left
      intro j _
      unfold sg_fv
      by_cases hr : sg_rb (sg_ag k) j = true
      · by_cases hl : lk k j = true
        · rw [if_pos hr, if_pos hr, if_pos hl, if_pos hl, ha _ (hL k j hk hl (by simp [sg_is, h0, hr]))]
        · rw [if_pos hr, if_pos hr, if_neg hl, if_neg hl]
      · rw [if_neg hr, if_neg hr]
    rw [if_pos h0, if_pos h0, e]
  · rw [if_neg h0, if_neg h0]
    by_cases h1 : sg_kd k = 1
    · rw [if_pos h1, if_pos h1]
    · rw [if_neg h1, if_neg h1]
      by_cases h2 : sg_kd k = 2
      · rw [if_pos h2, if_pos h2]
      · have e : sg_ra ad' lk k = sg_ra ad lk k := by
          unfold sg_ra
          funext j
          by_cases hc : j < sg_ag k ∧ lk k j = true
          · rw [if_pos hc, if_pos hc, ha _ (hL k j hk hc.2 (by simp [sg_is, sg_kd3 h0 h1 h2 hc.1, hc.1]))]
          · rw [if_neg hc, if_neg hc]
        rw [if_neg h2, if_neg h2, e]
/-! locals -/
def sg_vm (ad ra : Nat → Nat) (v : Value) : Value := match v with
  | .ref k => .ref (if k < 1000 then ad k else ra (k - 1000))
  | v => v
theorem sg_vm_cat (ad ra : Nat → Nat) (v : Value) : (sg_vm ad ra v).category = v.category := by cases v <;> rfl
def sg_LH (ad ra : Nat → Nat) (arr : Array Slot) (nL : Nat) (ls : sg_L) : Prop := arr.size = nL ∧ lv_wf arr ∧ ∀ (i : Nat) (v : Value), ls[i]? = some (some v) → arr[i]? = some (.val (sg_vm ad ra v))
def sg_al (ad ra : Nat → Nat) (ls : sg_L) : List (Nat × Value) := ls.zipIdx.filterMap (fun x => x.1.map (fun v => (x.2, sg_vm ad ra v)))
theorem sg_al_mem {ad ra : Nat → Nat} {ls : sg_L} {i : Nat} {w : Value} : (i, w) ∈ sg_al ad ra ls ↔ ∃ v, ls[i]? = some (some v) ∧ w = sg_vm ad ra v := by
  unfold sg_al
  rw [List.mem_filterMap]
  constructor
  · rintro ⟨⟨o, j⟩, hm, he⟩
    have hm' := List.mem_zipIdx_iff_getElem?.mp hm
    cases o with
    | none => simp at he
    | some v =>
      simp only [Option.map_some, Option.some.injEq, Prod.mk.injEq] at he
      obtain ⟨rfl, rfl⟩ := he
      exact ⟨v, hm', rfl⟩
  · rintro ⟨v, hv, rfl⟩
    exact ⟨(some v, i), List.mem_zipIdx_iff_getElem?.mpr hv, rfl⟩
theorem sg_LH.has {ad ra : Nat → Nat} {arr : Array Slot} {nL : Nat} {ls : sg_L} (h : sg_LH ad ra arr nL ls) : lv_has arr nL (sg_al ad ra ls) := by
  refine ⟨h.1, h.2.1, ?_⟩
  rintro ⟨i, w⟩ hm
  obtain ⟨v, hv, rfl⟩ := sg_al_mem.mp hm
  exact h.2.2 i v hv
theorem sg_kill_get {ls : sg_L} {k i : Nat} {w : Value} (h : (sg_kill ls k)[i]? = some (some w)) : ls[i]? = some (some w) ∧ ¬ (i + 1 = k ∧ w.category = 2) := by
  unfold sg_kill at h
  cases k with
  | zero => exact ⟨h, fun q => by omega⟩
  | succ k =>
    dsimp only at h
    cases hv : ls[k]? with
    | none =>
      rw [hv] at h
      refine ⟨h, fun q => ?_⟩
      have e : i = k := by omega
      subst e
      rw [hv] at h
      cases h
    | some o =>
      cases o with
      | none =>
        rw [hv] at h
        refine ⟨h, fun q => ?_⟩
        have e : i = k := by omega
        subst e
        rw [hv] at h
        cases h
      | some v =>
        rw [hv] at h
        dsimp only at h
        by_cases hc : v.category = 2
        · rw [if_pos hc] at h
          by_cases e : i = k
          · subst e
            rw [List.getElem?_set_self (List.getElem?_eq_some_iff.mp hv).1] at h
            cases h
          · rw [List.getElem?_set_ne (Ne.symm e)] at h
            exact ⟨h, fun q => by omega⟩
        · rw [if_neg hc] at h
          refine ⟨h, fun q => ?_⟩
          have e : i = k := by omega
          subst e
          rw [hv] at h
          cases h
          exact hc q.2
theorem sg_LH.s1 {ad ra : Nat → Nat} {arr : Array Slot} {nL k : Nat} {ls : sg_L} {v : Value} (h : lv_has arr nL ((k, sg_vm ad ra v) :: (sg_al ad ra ls).filter (fun q => !(q.1 == k) && !(q.1 + 1 == k && q.2.category == 2)))) : sg_LH ad ra arr nL (sg_s1 ls k v) := by
  refine ⟨h.1, h.2.1, ?_⟩
  intro i w hi
  by_cases e : i = k
  · subst e
    have : w = v := by
      unfold sg_s1 at hi
      by_cases hl : i < (sg_kill ls i).length
      · rw [List.getElem?_set_self hl] at hi
        cases hi
        rfl
      · rw [List.getElem?_eq_none (by simp; omega)] at hi
        cases hi
    subst this
    exact h.2.2 (i, _) List.mem_cons_self
  · unfold sg_s1 at hi
    rw [List.getElem?_set_ne (Ne.symm e)] at hi
    obtain ⟨h1, h2⟩ := sg_kill_get hi
    refine h.2.2 (i, sg_vm ad ra w) (List.mem_cons_of_mem _ (List.mem_filter.mpr ⟨sg_al_mem.mpr ⟨w, h1, rfl⟩, ?_⟩))
    simp only [Bool.and_eq_true, Bool.not_eq_true', beq_eq_false_iff_ne, Bool.and_eq_false_iff, ne_eq]
    refine ⟨e, ?_⟩
    have hcat := sg_vm_cat ad ra w
    rw [hcat]
    by_cases hk : i + 1 = k
    · exact Or.inr (fun q => h2 ⟨hk, q⟩)
    · exact Or.inl hk
theorem sg_LH.s2 {ad ra : Nat → Nat} {arr : Array Slot} {nL k : Nat} {ls : sg_L} {v : Value} (h : lv_has arr nL ((k, sg_vm ad ra v) :: (sg_al ad ra ls).filter (fun q => !(q.1 == k) && (!(q.1 == k + 1) && !(q.1 + 1 == k && q.2.category == 2))))) : sg_LH ad ra arr nL (sg_s2 ls k v) := by
  refine ⟨h.1, h.2.1, ?_⟩
  intro i w hi
  by_cases e : i = k
  · subst e
    have : w = v := by
      unfold sg_s2 at hi
      by_cases hl : i < ((sg_kill ls i).set (i + 1) none).length
      · rw [List.getElem?_set_self hl] at hi
        cases hi
        rfl
      · rw [List.getElem?_eq_none (by simp at hl ⊢; omega)] at hi
        cases hi
    subst this
    exact h.2.2 (i, _) List.mem_cons_self
  · unfold sg_s2 at hi
    rw [List.getElem?_set_ne (Ne.symm e)] at hi
    by_cases e2 : i = k + 1
    · subst e2
      by_cases hl : k + 1 < (sg_kill ls k).length
      · rw [List.getElem?_set_self hl] at hi
        cases hi
      · rw [List.getElem?_eq_none (by simp; omega)] at hi
        cases hi
    rw [List.getElem?_set_ne (Ne.symm e2)] at hi
    obtain ⟨h1, h2⟩ := sg_kill_get hi
    refine h.2.2 (i, sg_vm ad ra w) (List.mem_cons_of_mem _ (List.mem_filter.mpr ⟨sg_al_mem.mpr ⟨w, h1, rfl⟩, ?_⟩))
    simp only [Bool.and_eq_true, Bool.not_eq_true', beq_eq_false_iff_ne, Bool.and_eq_false_iff, ne_eq]
    refine ⟨e, e2, ?_⟩
    have hcat := sg_vm_cat ad ra w
    rw [hcat]
    by_cases hk : i + 1 = k
    · exact Or.inr (fun q => h2 ⟨hk, q⟩)
    · exact Or.inl hk
/-! the read-only arrays -/
def sg_T (t N : Nat) (f : Nat → Int32) (A : Nat → Prop) (U : State) (H : Heap) : Prop := ∃ cell : Cell, H[t]? = some cell ∧ U.isArrayOf cell .int ∧ cell.vm ≠ .unknown ∧ cell.vm.isStatics = false ∧ cell.slots.size = N ∧ (∀ j : Nat, j < N → cell.slots[j]? = some (.int (f j))) ∧ ¬ A t
theorem sg_T.moved {t N : Nat} {f : Nat → Int32} {A : Nat → Prop} {u U : State} {H : Heap} (hvm : u.vm.Alike U.vm) (h : sg_T t N f A u H) : sg_T t N f A U H := by
  obtain ⟨cell, h1, h2, h3⟩ := h
  exact ⟨cell, h1, State.isArrayOf_alike hvm h2, h3⟩
theorem sg_T.kept {t N : Nat} {f : Nat → Int32} {A : Nat → Prop} {U : State} {H H1 : Heap} (h : sg_T t N f A U H) (hq : ∀ a : Nat, a < H.size → ¬ A a → H1[a]? = H[a]?) : sg_T t N f A U H1 := by
  obtain ⟨cell, h1, h2, h3, h4, h5, h6, h7⟩ := h
  exact ⟨cell, by rw [hq t (Array.getElem?_eq_some_iff.mp h1).1 h7]; exact h1, h2, h3, h4, h5, h6, h7⟩
theorem sg_T.narrow {t N : Nat} {f : Nat → Int32} {A B : Nat → Prop} {U : State} {H : Heap} (h : sg_T t N f A U H) (hAB : ∀ q, B q → A q) : sg_T t N f B U H := by
  obtain ⟨cell, h1, h2, h3, h4, h5, h6, h7⟩ := h
  exact ⟨cell, h1, h2, h3, h4, h5, h6, fun z => h7 (hAB t z)⟩
def sg_Rn (i : Nat) : String := match i with
  | 0 => "LEAST_SETTING"
  | 1 => "MOST_SETTING"
  | _ => "FIRST_SETTING"
/-- the array that is cloned is of the plain kind "[I" (the Statement doesn't say so of a static array: NOTES.md) -/
def sg_Tc (t : Nat) (A : Nat → Prop) (U : State) (H : Heap) : Prop := ∃ cell : Cell, H[t]? = some cell ∧ U.vm.findClass "[I" = some cell.cls ∧ ¬ A t
def sg_RO (X : sg_X) (ra : Nat → Nat) (A : Nat → Prop) (U : State) (H : Heap) : Prop := (∀ i, i < 4 → sg_T (ra i) (sg_ro X i).1 (sg_ro X i).2 A U H) ∧ (∀ i, i < 3 → va_Z RX9 (sg_Rn i) "[I" (.ref (ra i)) A U H) ∧ sg_Tc (ra 2) A U H
theorem sg_Tc.moved {t : Nat} {A : Nat → Prop} {u U : State} {H : Heap} (hvm : u.vm.Alike U.vm) (h : sg_Tc t A u H) : sg_Tc t A U H := by
  obtain ⟨cell, h1, h2, h3⟩ := h
  exact ⟨cell, h1, by rw [hvm.findClass]; exact h2, h3⟩
theorem sg_Tc.kept {t : Nat} {A : Nat → Prop} {U : State} {H H1 : Heap} (h : sg_Tc t A U H) (hq : ∀ a : Nat, a < H.size → ¬ A a → H1[a]? = H[a]?) : sg_Tc t A U H1 := by
  obtain ⟨cell, h1, h2, h3⟩ := h
  exact ⟨cell, by rw [hq t (Array.getElem?_eq_some_iff.mp h1).1 h3]; exact h1, h2, h3⟩
theorem sg_Tc.narrow {t : Nat} {A B : Nat → Prop} {U : State} {H : Heap} (h : sg_Tc t A U H) (hAB : ∀ q, B q → A q) : sg_Tc t B U H := by
  obtain ⟨cell, h1, h2, h3⟩ := h
  exact ⟨cell, h1, h2, fun z => h3 (hAB t z)⟩
theorem sg_RO.moved {X : sg_X} {ra : Nat → Nat} {A : Nat → Prop} {u U : State} {H : Heap} (hvm : u.vm.Alike U.vm) (h : sg_RO X ra A u H) : sg_RO X ra A U H := ⟨fun i hi => (h.1 i hi).moved hvm, fun i hi => (h.2.1 i hi).moved hvm, h.2.2.moved hvm⟩
theorem sg_RO.kept {X : sg_X} {ra : Nat → Nat} {A : Nat → Prop} {U : State} {H H1 : Heap} (h : sg_RO X ra A U H) (hq : ∀ a : Nat, a < H.size → ¬ A a → H1[a]? = H[a]?) : sg_RO X ra A U H1 := ⟨fun i hi => (h.1 i hi).kept hq, fun i hi => (h.2.1 i hi).kept hq, h.2.2.kept hq⟩
theorem sg_RO.narrow {X : sg_X} {ra : Nat → Nat} {A B : Nat → Prop} {U : State} {H : Heap} (h : sg_RO X ra A U H) (hAB : ∀ q, B q → A q) : sg_RO X ra B U H := ⟨fun i hi => (h.1 i hi).narrow hAB, fun i hi => (h.2.1 i hi).narrow hAB, h.2.2.narrow hAB⟩
end
section
/-! words: where they stand in the tables -/
def sg_gw : List Cond := lw_tbl.filter goodWord
def sg_ck (p : Nat) (w : Cond) : Bool := decide (lw_tbl[p]? = some w) && goodWord w
theorem sg_ck_mem {p : Nat} {w : Cond} (h : sg_ck p w = true) : w ∈ sg_gw := by
  simp only [sg_ck, Bool.and_eq_true, decide_eq_true_eq] at h
  exact List.mem_filter.mpr ⟨List.mem_of_getElem? h.1, h.2⟩
def sg_cT (c : Nat) : vw_C := vwCl.getD c ("", TX0, 0)
def sg_tT (c : Nat) : Nat → FieldType := match c with
  | 0 => tyX0
  | 1 => tyX1
  | 2 => tyX2
  | 3 => tyX3
  | 4 => tyX4
  | 5 => tyX5
  | 6 => tyX6
  | 7 => tyX7
  | 8 => tyX8
  | 9 => tyX9
  | _ => tyX10
theorem sg_vw {c : Nat} (h : c < 11) : vwCl[c]? = some ((sg_cT c).1, (sg_cT c).2.1, (sg_cT c).2.2) := by
  unfold sg_cT
  rw [List.getD_eq_getElem?_getD]
  have hl : c < vwCl.length := h
  rw [List.getElem?_eq_getElem hl]
  rfl
theorem sg_vn : ∀ c, c < 11 → (sg_cT c).2.2 = sg_nf c := by decide +kernel
/-- places of the words on fields -/
def sg_UP : List (List Nat) := [[322, 324, 326, 328, 330, 332, 334, 336, 338, 340, 342, 344, 346, 348, 350, 352], [201, 203, 205, 207, 209, 211, 213, 215, 217, 219, 221, 223, 225, 227, 229, 231, 233], [130, 132, 134, 136, 138, 140, 142, 144, 146], [284, 286, 288, 290, 292], [367, 369, 371], [412, 414, 416, 418, 420], [388, 390, 392, 394], [248, 250, 252, 254], [846, 848, 850, 852], [430, 432, 434, 436, 438, 440, 442], [1004, 1006, 1008, 1010, 1012, 1014, 1016, 1018, 1020, 1022, 1024, 1026, 1028, 1030, 1032, 1034, 1036, 1038, 1040, 1042, 1044, 1046, 1048, 1050, 1052, 1054, 1056, 1058, 1060, 1062, 1064, 1066, 1068, 1070, 1072, 1074, 1076, 1078, 1080, 1082, 1084, 1086, 1088, 1090, 1092, 1094, 1096, 1098, 1100]]
def sg_lays (c j : Nat) : Cond := u_lay (sg_cT c).1 (sg_cT c).2.1 j
theorem sg_lw0 : ∀ j, j < 16 → sg_ck ((sg_UP.getD 0 []).getD j 0) (sg_lays 0 j) = true := by decide +kernel
theorem sg_lw1 : ∀ j, j < 17 → sg_ck ((sg_UP.getD 1 []).getD j 0) (sg_lays 1 j) = true := by decide +kernel
theorem sg_lw2 : ∀ j, j < 9 → sg_ck ((sg_UP.getD 2 []).getD j 0) (sg_lays 2 j) = true := by decide +kernel
theorem sg_lw3 : ∀ j, j < 5 → sg_ck ((sg_UP.getD 3 []).getD j 0) (sg_lays 3 j) = true := by decide +kernel
theorem sg_lw4 : ∀ j, j < 3 → sg_ck ((sg_UP.getD 4 []).getD j 0) (sg_lays 4 j) = true := by decide +kernel
theorem sg_lw5 : ∀ j, j < 5 → sg_ck ((sg_UP.getD 5 []).getD j 0) (sg_lays 5 j) = true := by decide +kernel
theorem sg_lw6 : ∀ j, j < 4 → sg_ck ((sg_UP.getD 6 []).getD j 0) (sg_lays 6 j) = true := by decide +kernel
theorem sg_lw7 : ∀ j, j < 4 → sg_ck ((sg_UP.getD 7 []).getD j 0) (sg_lays 7 j) = true := by decide +kernel
theorem sg_lw8 : ∀ j, j < 4 → sg_ck ((sg_UP.getD 8 []).getD j 0) (sg_lays 8 j) = true := by decide +kernel
theorem sg_lw9 : ∀ j, j < 7 → sg_ck ((sg_UP.getD 9 []).getD j 0) (sg_lays 9 j) = true := by decide +kernel
theorem sg_lw10 : ∀ j, j < 49 → sg_ck ((sg_UP.getD 10 []).getD j 0) (sg_lays 10 j) = true := by decide +kernel
theorem sg_lw : ∀ c, c < 11 → ∀ j, j < sg_nf c → sg_ck ((sg_UP.getD c []).getD j 0) (sg_lays c j) = true
  | 0, _ => sg_lw0
  | 1, _ => sg_lw1
  | 2, _ => sg_lw2
  | 3, _ => sg_lw3
  | 4, _ => sg_lw4
  | 5, _ => sg_lw5
  | 6, _ => sg_lw6
  | 7, _ => sg_lw7
  | 8, _ => sg_lw8
  | 9, _ => sg_lw9
  | 10, _ => sg_lw10
  | _ + 11, h => by omega
theorem sg_uws {c : Nat} (hc : c < 11) : ∀ w ∈ u_ws (sg_cT c).1 (sg_cT c).2.1 (sg_cT c).2.2, w ∈ sg_gw := by
  intro w hw
  unfold u_ws at hw
  obtain ⟨j, hj, rfl⟩ := List.mem_map.mp hw
  rw [List.mem_range, sg_vn c hc] at hj
  exact sg_ck_mem (sg_lw c hc j hj)
theorem sg_tys {c : Nat} (hc : c < 11) : ∀ k, k < (sg_cT c).2.2 → parseFieldDescriptor ((sg_cT c).2.1 k).2.2.1 = some (sg_tT c k) := by
  match c, hc with
  | 0, _ => exact tyX0_ok
  | 1, _ => exact tyX1_ok
  | 2, _ => exact tyX2_ok
  | 3, _ => exact tyX3_ok
  | 4, _ => exact tyX4_ok
  | 5, _ => exact tyX5_ok
  | 6, _ => exact tyX6_ok
  | 7, _ => exact tyX7_ok
  | 8, _ => exact tyX8_ok
  | 9, _ => exact tyX9_ok
  | 10, _ => exact tyX10_ok
  | _ + 11, h => omega
theorem sg_nms {c : Nat} (hc : c < 11) : ∀ a, a < (sg_cT c).2.2 → ∀ b, b < (sg_cT c).2.2 → a ≠ b → ((sg_cT c).2.1 a).2.1 ≠ ((sg_cT c).2.1 b).2.1 := by
  match c, hc with
  | 0, _ => exact nmX0
  | 1, _ => exact nmX1
  | 2, _ => exact nmX2
  | 3, _ => exact nmX3
  | 4, _ => exact nmX4
  | 5, _ => exact nmX5
  | 6, _ => exact nmX6
  | 7, _ => exact nmX7
  | 8, _ => exact nmX8
  | 9, _ => exact nmX9
  | 10, _ => exact nmX10
  | _ + 11, h => omega
/-- a field's kind, and whether it is final -/
theorem sg_fk : ∀ c, c < 11 → ∀ j, j < sg_nf c → ((sg_cT c).2.1 j).1 = (sg_cT c).1 ∧ ((sg_cT c).2.1 j).2.2.2 = sg_fb c j ∧ (sg_rb c j = false → sg_tT c j = .int) ∧ (sg_rb c j = true → defaultValue (sg_tT c j) = .null) ∧ (sg_cT c).1 = sg_cn c := by decide +kernel
theorem sg_rk : ∀ c, c < 11 → ∀ j, j < sg_nf c → sg_rb c j = true → (sg_tT c j = .array .int ∨ sg_tT c j = .array .boolean ∨ (List.range 11).any (fun d => decide (sg_tT c j = .object (sg_cn d))) = true ∨ sg_tT c j = .array (.object RX2)) := by decide +kernel
def sg_fck (o : Nat) (e : Nat × Nat × Nat × Nat) : Bool := sg_ck e.2.2.2 (.fieldLink (sg_cn o) e.1 (sg_cn e.2.1) ((sg_cT e.2.1).2.1 e.2.2.1).2.1 ((sg_cT e.2.1).2.1 e.2.2.1).2.2.1) && decide (e.2.1 < 11) && decide (e.2.2.1 < sg_nf e.2.1)
theorem sg_fw0 : (sg_FT.getD 0 []).all (sg_fck 0) = true := by decide +kernel
theorem sg_fw1 : (sg_FT.getD 1 []).all (sg_fck 1) = true := by decide +kernel
theorem sg_fw2 : (sg_FT.getD 2 []).all (sg_fck 2) = true := by decide +kernel
theorem sg_fw3 : (sg_FT.getD 3 []).all (sg_fck 3) = true := by decide +kernel
theorem sg_fw4 : (sg_FT.getD 4 []).all (sg_fck 4) = true := by decide +kernel
theorem sg_fw5 : (sg_FT.getD 5 []).all (sg_fck 5) = true := by decide +kernel
theorem sg_fw6 : (sg_FT.getD 6 []).all (sg_fck 6) = true := by decide +kernel
theorem sg_fw7 : (sg_FT.getD 7 []).all (sg_fck 7) = true := by decide +kernel
theorem sg_fw8 : (sg_FT.getD 8 []).all (sg_fck 8) = true := by decide +kernel
theorem sg_fw9 : (sg_FT.getD 9 []).all (sg_fck 9) = true := by decide +kernel
theorem sg_fw10 : (sg_FT.getD 10 []).all (sg_fck 10) = true := by decide +kernel
theorem sg_fw : ∀ o, (sg_FT.getD o []).all (sg_fck o) = true
  | 0 => sg_fw0
  | 1 => sg_fw1
  | 2 => sg_fw2
  | 3 => sg_fw3
  | 4 => sg_fw4
  | 5 => sg_fw5
  | 6 => sg_fw6
  | 7 => sg_fw7
  | 8 => sg_fw8
  | 9 => sg_fw9
  | 10 => sg_fw10
  | 11 => rfl
  | 12 => rfl
  | 13 => rfl
  | 14 => rfl
  | _ + 15 => rfl
theorem sg_fl_ok {o i c j p : Nat} (h : sg_fl o i = some (c, j, p)) : Cond.fieldLink (sg_cn o) i (sg_cn c) ((sg_cT c).2.1 j).2.1 ((sg_cT c).2.1 j).2.2.1 ∈ sg_gw ∧ c < 11 ∧ j < sg_nf c := by
  unfold sg_fl at h
  cases hf : (sg_FT.getD o []).find? (fun e => e.1 == i) with
  | none => rw [hf] at h; cases h
  | some e =>
    rw [hf] at h
    have hm := List.mem_of_find?_eq_some hf
    have he := List.find?_some hf
    have hk := List.all_eq_true.mp (sg_fw o) e hm
    obtain ⟨e1, e2, e3, e4⟩ := e
    cases h
    simp only [beq_iff_eq] at he
    subst he
    simp only [sg_fck, Bool.and_eq_true, decide_eq_true_eq] at hk
    exact ⟨sg_ck_mem hk.1.1, hk.1.2, hk.2⟩
def sg_IP : List (Nat × Nat) := [(258, 71), (90, 67), (109, 69), (264, 72), (356, 73), (398, 75), (375, 74), (237, 70), (837, 80), (82, 66), (950, 76)]
theorem sg_iw : ∀ c, c < 11 → sg_ck (sg_IP.getD c (0, 0)).1 (.instantiable (sg_cT c).1 (sg_cT c).2.2) = true ∧ sg_ck (sg_IP.getD c (0, 0)).2 (.initialized (sg_cT c).1) = true := by decide +kernel
def sg_nck (o : Nat) (e : Nat × Nat × Nat) : Bool := sg_ck e.2.2 (.classLink (sg_cn o) e.1 (sg_cT e.2.1).1) && decide (e.2.1 < 11)
theorem sg_nw0 : ∀ o, o < 15 → (sg_NT.getD o []).all (sg_nck o) = true := by decide +kernel
theorem sg_nl_ok {o i c p : Nat} (ho : o < 15) (h : sg_nl o i = some (c, p)) : Cond.classLink (sg_cn o) i (sg_cT c).1 ∈ sg_gw ∧ c < 11 := by
  unfold sg_nl at h
  cases hf : (sg_NT.getD o []).find? (fun e => e.1 == i) with
  | none => rw [hf] at h; cases h
  | some e =>
    rw [hf] at h
    have hm := List.mem_of_find?_eq_some hf
    have he := List.find?_some hf
    have hk := List.all_eq_true.mp (sg_nw0 o ho) e hm
    obtain ⟨e1, e2, e3⟩ := e
    cases h
    simp only [beq_iff_eq] at he
    subst he
    simp only [sg_nck, Bool.and_eq_true, decide_eq_true_eq] at hk
    exact ⟨sg_ck_mem hk.1, hk.2⟩
theorem sg_icw0 : ∀ o, o < 15 → (sg_IT.getD o []).all (fun e => sg_ck e.2.2 (.constant (sg_cn o) e.1 e.2.1)) = true := by decide +kernel
theorem sg_il_ok {o i p : Nat} {v : Int32} (ho : o < 15) (h : sg_il o i = some (v, p)) : Cond.constant (sg_cn o) i v ∈ sg_gw := by
  unfold sg_il at h
  cases hf : (sg_IT.getD o []).find? (fun e => e.1 == i) with
  | none => rw [hf] at h; cases h
  | some e =>
    rw [hf] at h
    have hm := List.mem_of_find?_eq_some hf
    have he := List.find?_some hf
    have hk := List.all_eq_true.mp (sg_icw0 o ho) e hm
    obtain ⟨e1, e2, e3⟩ := e
    cases h
    simp only [beq_iff_eq] at he
    subst he
    exact sg_ck_mem hk
theorem sg_jcw0 : ∀ o, o < 15 → (sg_JT.getD o []).all (fun e => sg_ck e.2.2 (.constantLong (sg_cn o) e.1 e.2.1)) = true := by decide +kernel
theorem sg_jl_ok {o i p : Nat} {v : Int64} (ho : o < 15) (h : sg_jl o i = some (v, p)) : Cond.constantLong (sg_cn o) i v ∈ sg_gw := by
  unfold sg_jl at h
  cases hf : (sg_JT.getD o []).find? (fun e => e.1 == i) with
  | none => rw [hf] at h; cases h
  | some e =>
    rw [hf] at h
    have hm := List.mem_of_find?_eq_some hf
    have he := List.find?_some hf
    have hk := List.all_eq_true.mp (sg_jcw0 o ho) e hm
    obtain ⟨e1, e2, e3⟩ := e
    cases h
    simp only [beq_iff_eq] at he
    subst he
    exact sg_ck_mem hk
theorem sg_gw0 : sg_ck 504 (.fieldLink (sg_cn 9) 110 RX9 (sg_Rn 0) "[I") = true ∧ sg_ck 506 (.fieldLink (sg_cn 9) 113 RX9 (sg_Rn 1) "[I") = true := by decide +kernel
/-- words that aren't kept by the tables alone: nest mates and their like -/
def sg_nw : List Cond := [.methodLinkNest (sg_cn 9) 37 yX4_init RX9, .methodLinkNest (sg_cn 9) 44 yX6_init RX9, .methodLinkNest (sg_cn 9) 51 yX5_init RX9, .methodLinkNest (sg_cn 9) 298 yX8_init RX9, .methodLinkNest (sg_cn 0) 11 yX3_init RX9, .methodLinkNest (sg_cn 0) 203 yX9_isLastInRow RX9, .methodLinkNest (sg_cn 1) 65 yX2_init RX9, .methodLinkNest (sg_cn 7) 27 yX9_isWithin RX9, .fieldLinkNest (sg_cn 1) 18 RX9 (sg_Rn 2) "[I" RX9, .castable "[I" "java/lang/Cloneable", .arrayOver (.object RX2)]
def sg_nwp : List Nat := [357, 376, 399, 838, 265, 660, 110, 462, 95, 102, 105]
theorem sg_nw_tbl : sg_nw = sg_nwp.filterMap (fun p => lw_tbl[p]?) := by decide +kernel
theorem sg_nw_of {A : Array Value} {s : State} (h : ∀ w ∈ sg_nw, w.before A s = true) : ∀ w ∈ sg_nw, va_Nw w s := by
  simp only [sg_nw, List.forall_mem_cons] at h ⊢
  obtain ⟨h0, h1, h2, h3, h4, h5, h6, h7, h8, h9, h10, h99⟩ := h
  exact ⟨va_Nw.of rfl h0, va_Nw.of rfl h1, va_Nw.of rfl h2, va_Nw.of rfl h3, va_Nw.of rfl h4, va_Nw.of rfl h5, va_Nw.of rfl h6, va_Nw.of rfl h7, va_Nw.of rfl h8, va_Nw.of rfl h9, va_AO.of h10, fun _ hn => absurd hn List.not_mem_nil⟩
theorem sg_nw_warm {s U : State} (hW : s.WarmedH U.vm) (h : ∀ w ∈ sg_nw, va_Nw w s) : ∀ w ∈ sg_nw, va_Nw w U := by
  simp only [sg_nw, List.forall_mem_cons] at h ⊢
  obtain ⟨h0, h1, h2, h3, h4, h5, h6, h7, h8, h9, h10, h99⟩ := h
  exact ⟨va_Nw.warmM hW h0, va_Nw.warmM hW h1, va_Nw.warmM hW h2, va_Nw.warmM hW h3, va_Nw.warmM hW h4, va_Nw.warmM hW h5, va_Nw.warmM hW h6, va_Nw.warmM hW h7, va_Nw.warmF hW h8, va_Nw.warmC hW h9, va_AO.moved hW.alike h10, fun _ hn => absurd hn List.not_mem_nil⟩
/-! methods -/
def sg_ss : List Bool := [false, false, false, false, false, false, false, false, false, false, false, false, false, false, false, false, false, false, false, false, false, false, false, false, false, false, false, false, false, false, false, false, false, false, false, false, false, false, false, false, false, false, false, false, true, true, false, false, false, false, false, false, false, false, false, false, false, false, false, false, false, false, false, false, false, false, false, false, false, false, false, false, false, false, false, false, false, false, false, false, false, false, false, false, false, false, false, false, false, false, false, false, false, false, false, false, false, true, true, true, true, true, true, true, false, false, false, false, false, false, false, false, false, false, false, false, false, false, false, false, false, true, false, true, false, false, false, true, false, false, false, false, true, true, false, false, true, false, true, true, false, false, false, false, false, false, false, false, false, false, false, false, true, false, false, false, false, false, false, false, false, false, false, false, false, false, true, false, false, false, false, false, false, false, false, false, false, false, false, false, false, false, false, false, false, false, false, false, false, false, false, false, false, false, false, false, true, true, true, true, true, true, true, false]
def sg_sb (m : Nat) : Bool := sg_ss.getD m false
def sg_mck (m : Nat) : Bool := sg_ck (sg_pt m).2.2.2 (.initialized (sg_my m).cls) && cond (sg_sb m) (sg_ck (sg_pt m).2.1 (.static (sg_my m))) (sg_ck (sg_pt m).2.1 (.instanceMethod (sg_my m))) && decide ((sg_my m).cls = sg_cn (sg_mo m)) && decide ((sg_my m).cls ≠ "java/lang/invoke/MethodHandle" ∧ (sg_my m).cls ≠ "java/lang/invoke/VarHandle") && decide ((parseMethodDescriptor (sg_my m).desc).map (fun d => d.parameters.length + cond (sg_sb m) 0 1) = some (sg_ac m)) && plainFor (sg_my m) && decide (sg_mo m < 15)
theorem sg_mw_0 : ∀ k, k < 26 → sg_mck (0 + k) = true := by decide +kernel
theorem sg_mw_26 : ∀ k, k < 26 → sg_mck (26 + k) = true := by decide +kernel
theorem sg_mw_52 : ∀ k, k < 26 → sg_mck (52 + k) = true := by decide +kernel
theorem sg_mw_78 : ∀ k, k < 26 → sg_mck (78 + k) = true := by decide +kernel
theorem sg_mw_104 : ∀ k, k < 26 → sg_mck (104 + k) = true := by decide +kernel
theorem sg_mw_130 : ∀ k, k < 26 → sg_mck (130 + k) = true := by decide +kernel
theorem sg_mw_156 : ∀ k, k < 26 → sg_mck (156 + k) = true := by decide +kernel
theorem sg_mw_182 : ∀ k, k < 21 → sg_mck (182 + k) = true := by decide +kernel
theorem sg_mw (m : Nat) (h : m < 203) : sg_mck m = true := by
  by_cases h0 : m < 26
  · have := sg_mw_0 (m - 0) (by omega)
    rwa [show 0 + (m - 0) = m by omega] at this
  by_cases h26 : m < 52
  · have := sg_mw_26 (m - 26) (by omega)
    rwa [show 26 + (m - 26) = m by omega] at this
  by_cases h52 : m < 78
  · have := sg_mw_52 (m - 52) (by omega)
    rwa [show 52 + (m - 52) = m by omega] at this
  by_cases h78 : m < 104
  · have := sg_mw_78 (m - 78) (by omega)
    rwa [show 78 + (m - 78) = m by omega] at this
  by_cases h104 : m < 130
  · have := sg_mw_104 (m - 104) (by omega)
    rwa [show 104 + (m - 104) = m by omega] at this
  by_cases h130 : m < 156
  · have := sg_mw_130 (m - 130) (by omega)
    rwa [show 130 + (m - 130) = m by omega] at this
  by_cases h156 : m < 182
  · have := sg_mw_156 (m - 156) (by omega)
    rwa [show 156 + (m - 156) = m by omega] at this
  by_cases h182 : m < 203
  · have := sg_mw_182 (m - 182) (by omega)
    rwa [show 182 + (m - 182) = m by omega] at this
  omega
theorem sg_mo_lt (m : Nat) : sg_mo m < 15 := by
  by_cases h : m < 203
  · have := sg_mw m h
    simp only [sg_mck, Bool.and_eq_true, decide_eq_true_eq] at this
    exact this.2
  · by_cases h2 : m = 203
    · subst h2
      decide +kernel
    · have : sg_mt m = sg_m0 := by
        unfold sg_mt
        rw [List.getD_eq_getElem?_getD, List.getElem?_eq_none (by show 204 ≤ m; omega)]
        rfl
      rw [show sg_mo m = (sg_mt m).2.2.2.2.1 from rfl, this]
      decide
theorem sg_cw0 : Cond.code (sg_my 0) (sg_mc 0) (sg_ml 0) (sg_mr 0) ∈ lw_tbl := List.mem_append_right _ (List.mem_append_left _ (List.mem_of_getElem? (i := 196) rfl))
theorem sg_cw1 : Cond.code (sg_my 1) (sg_mc 1) (sg_ml 1) (sg_mr 1) ∈ lw_tbl := List.mem_append_right _ (List.mem_append_right _ (List.mem_append_right _ (List.mem_append_left _ (List.mem_of_getElem? (i := 61) rfl))))
theorem sg_cw2 : Cond.code (sg_my 2) (sg_mc 2) (sg_ml 2) (sg_mr 2) ∈ lw_tbl := List.mem_append_right _ (List.mem_append_right _ (List.mem_append_right _ (List.mem_append_left _ (List.mem_of_getElem? (i := 65) rfl))))
theorem sg_cw3 : Cond.code (sg_my 3) (sg_mc 3) (sg_ml 3) (sg_mr 3) ∈ lw_tbl := List.mem_append_right _ (List.mem_append_right _ (List.mem_append_right _ (List.mem_append_left _ (List.mem_of_getElem? (i := 71) rfl))))
theorem sg_cw4 : Cond.code (sg_my 4) (sg_mc 4) (sg_ml 4) (sg_mr 4) ∈ lw_tbl := List.mem_append_right _ (List.mem_append_right _ (List.mem_append_right _ (List.mem_append_left _ (List.mem_of_getElem? (i := 75) rfl))))
theorem sg_cw5 : Cond.code (sg_my 5) (sg_mc 5) (sg_ml 5) (sg_mr 5) ∈ lw_tbl := List.mem_append_right _ (List.mem_append_right _ (List.mem_append_right _ (List.mem_append_left _ (List.mem_of_getElem? (i := 80) rfl))))
theorem sg_cw6 : Cond.code (sg_my 6) (sg_mc 6) (sg_ml 6) (sg_mr 6) ∈ lw_tbl := List.mem_append_right _ (List.mem_append_right _ (List.mem_append_right _ (List.mem_append_left _ (List.mem_of_getElem? (i := 88) rfl))))
theorem sg_cw7 : Cond.code (sg_my 7) (sg_mc 7) (sg_ml 7) (sg_mr 7) ∈ lw_tbl := List.mem_append_right _ (List.mem_append_right _ (List.mem_append_right _ (List.mem_append_left _ (List.mem_of_getElem? (i := 84) rfl))))
theorem sg_cw8 : Cond.code (sg_my 8) (sg_mc 8) (sg_ml 8) (sg_mr 8) ∈ lw_tbl := List.mem_append_right _ (List.mem_append_right _ (List.mem_append_right _ (List.mem_append_left _ (List.mem_of_getElem? (i := 92) rfl))))
theorem sg_cw9 : Cond.code (sg_my 9) (sg_mc 9) (sg_ml 9) (sg_mr 9) ∈ lw_tbl := List.mem_append_right _ (List.mem_append_right _ (List.mem_append_right _ (List.mem_append_left _ (List.mem_of_getElem? (i := 98) rfl))))
theorem sg_cw10 : Cond.code (sg_my 10) (sg_mc 10) (sg_ml 10) (sg_mr 10) ∈ lw_tbl := List.mem_append_right _ (List.mem_append_right _ (List.mem_append_right _ (List.mem_append_left _ (List.mem_of_getElem? (i := 102) rfl))))
theorem sg_cw11 : Cond.code (sg_my 11) (sg_mc 11) (sg_ml 11) (sg_mr 11) ∈ lw_tbl := List.mem_append_right _ (List.mem_append_right _ (List.mem_append_right _ (List.mem_append_left _ (List.mem_of_getElem? (i := 106) rfl))))
theorem sg_cw12 : Cond.code (sg_my 12) (sg_mc 12) (sg_ml 12) (sg_mr 12) ∈ lw_tbl := List.mem_append_right _ (List.mem_append_right _ (List.mem_append_right _ (List.mem_append_left _ (List.mem_of_getElem? (i := 110) rfl))))
theorem sg_cw13 : Cond.code (sg_my 13) (sg_mc 13) (sg_ml 13) (sg_mr 13) ∈ lw_tbl := List.mem_append_right _ (List.mem_append_right _ (List.mem_append_right _ (List.mem_append_left _ (List.mem_of_getElem? (i := 114) rfl))))
theorem sg_cw14 : Cond.code (sg_my 14) (sg_mc 14) (sg_ml 14) (sg_mr 14) ∈ lw_tbl := List.mem_append_right _ (List.mem_append_right _ (List.mem_append_right _ (List.mem_append_left _ (List.mem_of_getElem? (i := 119) rfl))))
theorem sg_cw15 : Cond.code (sg_my 15) (sg_mc 15) (sg_ml 15) (sg_mr 15) ∈ lw_tbl := List.mem_append_right _ (List.mem_append_right _ (List.mem_append_right _ (List.mem_append_left _ (List.mem_of_getElem? (i := 129) rfl))))
theorem sg_cw16 : Cond.code (sg_my 16) (sg_mc 16) (sg_ml 16) (sg_mr 16) ∈ lw_tbl := List.mem_append_right _ (List.mem_append_right _ (List.mem_append_right _ (List.mem_append_left _ (List.mem_of_getElem? (i := 135) rfl))))
theorem sg_cw17 : Cond.code (sg_my 17) (sg_mc 17) (sg_ml 17) (sg_mr 17) ∈ lw_tbl := List.mem_append_right _ (List.mem_append_right _ (List.mem_append_right _ (List.mem_append_left _ (List.mem_of_getElem? (i := 171) rfl))))
theorem sg_cw18 : Cond.code (sg_my 18) (sg_mc 18) (sg_ml 18) (sg_mr 18) ∈ lw_tbl := List.mem_append_right _ (List.mem_append_left _ (List.mem_of_getElem? (i := 28) rfl))
theorem sg_cw19 : Cond.code (sg_my 19) (sg_mc 19) (sg_ml 19) (sg_mr 19) ∈ lw_tbl := List.mem_append_right _ (List.mem_append_right _ (List.mem_append_left _ (List.mem_of_getElem? (i := 190) rfl)))
theorem sg_cw20 : Cond.code (sg_my 20) (sg_mc 20) (sg_ml 20) (sg_mr 20) ∈ lw_tbl := List.mem_append_right _ (List.mem_append_right _ (List.mem_append_left _ (List.mem_of_getElem? (i := 194) rfl)))
theorem sg_cw21 : Cond.code (sg_my 21) (sg_mc 21) (sg_ml 21) (sg_mr 21) ∈ lw_tbl := List.mem_append_right _ (List.mem_append_right _ (List.mem_append_right _ (List.mem_append_right _ (List.mem_append_left _ (List.mem_of_getElem? (i := 153) rfl)))))
theorem sg_cw22 : Cond.code (sg_my 22) (sg_mc 22) (sg_ml 22) (sg_mr 22) ∈ lw_tbl := List.mem_append_right _ (List.mem_append_right _ (List.mem_append_right _ (List.mem_append_left _ (List.mem_of_getElem? (i := 199) rfl))))
theorem sg_cw23 : Cond.code (sg_my 23) (sg_mc 23) (sg_ml 23) (sg_mr 23) ∈ lw_tbl := List.mem_append_right _ (List.mem_append_left _ (List.mem_of_getElem? (i := 47) rfl))
theorem sg_cw24 : Cond.code (sg_my 24) (sg_mc 24) (sg_ml 24) (sg_mr 24) ∈ lw_tbl := List.mem_append_right _ (List.mem_append_right _ (List.mem_append_right _ (List.mem_append_left _ (List.mem_of_getElem? (i := 14) rfl))))
theorem sg_cw25 : Cond.code (sg_my 25) (sg_mc 25) (sg_ml 25) (sg_mr 25) ∈ lw_tbl := List.mem_append_right _ (List.mem_append_right _ (List.mem_append_left _ (List.mem_of_getElem? (i := 222) rfl)))
theorem sg_cw26 : Cond.code (sg_my 26) (sg_mc 26) (sg_ml 26) (sg_mr 26) ∈ lw_tbl := List.mem_append_right _ (List.mem_append_right _ (List.mem_append_right _ (List.mem_append_left _ (List.mem_of_getElem? (i := 22) rfl))))
theorem sg_cw27 : Cond.code (sg_my 27) (sg_mc 27) (sg_ml 27) (sg_mr 27) ∈ lw_tbl := List.mem_append_right _ (List.mem_append_right _ (List.mem_append_left _ (List.mem_of_getElem? (i := 226) rfl)))
theorem sg_cw28 : Cond.code (sg_my 28) (sg_mc 28) (sg_ml 28) (sg_mr 28) ∈ lw_tbl := List.mem_append_right _ (List.mem_append_right _ (List.mem_append_left _ (List.mem_of_getElem? (i := 230) rfl)))
theorem sg_cw29 : Cond.code (sg_my 29) (sg_mc 29) (sg_ml 29) (sg_mr 29) ∈ lw_tbl := List.mem_append_right _ (List.mem_append_right _ (List.mem_append_left _ (List.mem_of_getElem? (i := 234) rfl)))
theorem sg_cw30 : Cond.code (sg_my 30) (sg_mc 30) (sg_ml 30) (sg_mr 30) ∈ lw_tbl := List.mem_append_right _ (List.mem_append_right _ (List.mem_append_left _ (List.mem_of_getElem? (i := 238) rfl)))
theorem sg_cw31 : Cond.code (sg_my 31) (sg_mc 31) (sg_ml 31) (sg_mr 31) ∈ lw_tbl := List.mem_append_right _ (List.mem_append_right _ (List.mem_append_right _ (List.mem_append_left _ (List.mem_of_getElem? (i := 2) rfl))))
theorem sg_cw32 : Cond.code (sg_my 32) (sg_mc 32) (sg_ml 32) (sg_mr 32) ∈ lw_tbl := List.mem_append_right _ (List.mem_append_right _ (List.mem_append_right _ (List.mem_append_left _ (List.mem_of_getElem? (i := 6) rfl))))
theorem sg_cw33 : Cond.code (sg_my 33) (sg_mc 33) (sg_ml 33) (sg_mr 33) ∈ lw_tbl := List.mem_append_right _ (List.mem_append_left _ (List.mem_of_getElem? (i := 202) rfl))
theorem sg_cw34 : Cond.code (sg_my 34) (sg_mc 34) (sg_ml 34) (sg_mr 34) ∈ lw_tbl := List.mem_append_right _ (List.mem_append_right _ (List.mem_append_right _ (List.mem_append_left _ (List.mem_of_getElem? (i := 54) rfl))))
theorem sg_cw35 : Cond.code (sg_my 35) (sg_mc 35) (sg_ml 35) (sg_mr 35) ∈ lw_tbl := List.mem_append_right _ (List.mem_append_right _ (List.mem_append_left _ (List.mem_of_getElem? (i := 54) rfl)))
theorem sg_cw36 : Cond.code (sg_my 36) (sg_mc 36) (sg_ml 36) (sg_mr 36) ∈ lw_tbl := List.mem_append_right _ (List.mem_append_right _ (List.mem_append_left _ (List.mem_of_getElem? (i := 96) rfl)))
theorem sg_cw37 : Cond.code (sg_my 37) (sg_mc 37) (sg_ml 37) (sg_mr 37) ∈ lw_tbl := List.mem_append_right _ (List.mem_append_right _ (List.mem_append_right _ (List.mem_append_left _ (List.mem_of_getElem? (i := 222) rfl))))
theorem sg_cw38 : Cond.code (sg_my 38) (sg_mc 38) (sg_ml 38) (sg_mr 38) ∈ lw_tbl := List.mem_append_right _ (List.mem_append_right _ (List.mem_append_right _ (List.mem_append_left _ (List.mem_of_getElem? (i := 227) rfl))))
theorem sg_cw39 : Cond.code (sg_my 39) (sg_mc 39) (sg_ml 39) (sg_mr 39) ∈ lw_tbl := List.mem_append_right _ (List.mem_append_right _ (List.mem_append_right _ (List.mem_append_left _ (List.mem_of_getElem? (i := 232) rfl))))
theorem sg_cw40 : Cond.code (sg_my 40) (sg_mc 40) (sg_ml 40) (sg_mr 40) ∈ lw_tbl := List.mem_append_right _ (List.mem_append_right _ (List.mem_append_right _ (List.mem_append_left _ (List.mem_of_getElem? (i := 236) rfl))))
theorem sg_cw41 : Cond.code (sg_my 41) (sg_mc 41) (sg_ml 41) (sg_mr 41) ∈ lw_tbl := List.mem_append_right _ (List.mem_append_right _ (List.mem_append_left _ (List.mem_of_getElem? (i := 73) rfl)))
theorem sg_cw42 : Cond.code (sg_my 42) (sg_mc 42) (sg_ml 42) (sg_mr 42) ∈ lw_tbl := List.mem_append_right _ (List.mem_append_right _ (List.mem_append_right _ (List.mem_append_left _ (List.mem_of_getElem? (i := 210) rfl))))
theorem sg_cw43 : Cond.code (sg_my 43) (sg_mc 43) (sg_ml 43) (sg_mr 43) ∈ lw_tbl := List.mem_append_right _ (List.mem_append_left _ (List.mem_of_getElem? (i := 175) rfl))
theorem sg_cw44 : Cond.code (sg_my 44) (sg_mc 44) (sg_ml 44) (sg_mr 44) ∈ lw_tbl := List.mem_append_right _ (List.mem_append_right _ (List.mem_append_left _ (List.mem_of_getElem? (i := 156) rfl)))
theorem sg_cw45 : Cond.code (sg_my 45) (sg_mc 45) (sg_ml 45) (sg_mr 45) ∈ lw_tbl := List.mem_append_right _ (List.mem_append_right _ (List.mem_append_right _ (List.mem_append_right _ (List.mem_append_left _ (List.mem_of_getElem? (i := 86) rfl)))))
theorem sg_cw46 : Cond.code (sg_my 46) (sg_mc 46) (sg_ml 46) (sg_mr 46) ∈ lw_tbl := List.mem_append_right _ (List.mem_append_right _ (List.mem_append_left _ (List.mem_of_getElem? (i := 165) rfl)))
theorem sg_cw47 : Cond.code (sg_my 47) (sg_mc 47) (sg_ml 47) (sg_mr 47) ∈ lw_tbl := List.mem_append_right _ (List.mem_append_right _ (List.mem_append_left _ (List.mem_of_getElem? (i := 161) rfl)))
theorem sg_cw48 : Cond.code (sg_my 48) (sg_mc 48) (sg_ml 48) (sg_mr 48) ∈ lw_tbl := List.mem_append_right _ (List.mem_append_right _ (List.mem_append_left _ (List.mem_of_getElem? (i := 169) rfl)))
theorem sg_cw49 : Cond.code (sg_my 49) (sg_mc 49) (sg_ml 49) (sg_mr 49) ∈ lw_tbl := List.mem_append_right _ (List.mem_append_right _ (List.mem_append_left _ (List.mem_of_getElem? (i := 176) rfl)))
theorem sg_cw50 : Cond.code (sg_my 50) (sg_mc 50) (sg_ml 50) (sg_mr 50) ∈ lw_tbl := List.mem_append_right _ (List.mem_append_right _ (List.mem_append_right _ (List.mem_append_right _ (List.mem_append_left _ (List.mem_of_getElem? (i := 121) rfl)))))
theorem sg_cw51 : Cond.code (sg_my 51) (sg_mc 51) (sg_ml 51) (sg_mr 51) ∈ lw_tbl := List.mem_append_right _ (List.mem_append_right _ (List.mem_append_right _ (List.mem_append_right _ (List.mem_append_left _ (List.mem_of_getElem? (i := 90) rfl)))))
theorem sg_cw52 : Cond.code (sg_my 52) (sg_mc 52) (sg_ml 52) (sg_mr 52) ∈ lw_tbl := List.mem_append_right _ (List.mem_append_right _ (List.mem_append_right _ (List.mem_append_right _ (List.mem_append_left _ (List.mem_of_getElem? (i := 104) rfl)))))
theorem sg_cw53 : Cond.code (sg_my 53) (sg_mc 53) (sg_ml 53) (sg_mr 53) ∈ lw_tbl := List.mem_append_right _ (List.mem_append_right _ (List.mem_append_right _ (List.mem_append_right _ (List.mem_append_left _ (List.mem_of_getElem? (i := 112) rfl)))))
theorem sg_cw54 : Cond.code (sg_my 54) (sg_mc 54) (sg_ml 54) (sg_mr 54) ∈ lw_tbl := List.mem_append_right _ (List.mem_append_right _ (List.mem_append_right _ (List.mem_append_right _ (List.mem_append_left _ (List.mem_of_getElem? (i := 134) rfl)))))
theorem sg_cw55 : Cond.code (sg_my 55) (sg_mc 55) (sg_ml 55) (sg_mr 55) ∈ lw_tbl := List.mem_append_right _ (List.mem_append_right _ (List.mem_append_right _ (List.mem_append_right _ (List.mem_append_left _ (List.mem_of_getElem? (i := 117) rfl)))))
theorem sg_cw56 : Cond.code (sg_my 56) (sg_mc 56) (sg_ml 56) (sg_mr 56) ∈ lw_tbl := List.mem_append_right _ (List.mem_append_right _ (List.mem_append_right _ (List.mem_append_right _ (List.mem_append_left _ (List.mem_of_getElem? (i := 139) rfl)))))
theorem sg_cw57 : Cond.code (sg_my 57) (sg_mc 57) (sg_ml 57) (sg_mr 57) ∈ lw_tbl := List.mem_append_right _ (List.mem_append_right _ (List.mem_append_right _ (List.mem_append_right _ (List.mem_append_left _ (List.mem_of_getElem? (i := 55) rfl)))))
theorem sg_cw58 : Cond.code (sg_my 58) (sg_mc 58) (sg_ml 58) (sg_mr 58) ∈ lw_tbl := List.mem_append_right _ (List.mem_append_right _ (List.mem_append_right _ (List.mem_append_right _ (List.mem_append_left _ (List.mem_of_getElem? (i := 73) rfl)))))
theorem sg_cw59 : Cond.code (sg_my 59) (sg_mc 59) (sg_ml 59) (sg_mr 59) ∈ lw_tbl := List.mem_append_right _ (List.mem_append_right _ (List.mem_append_right _ (List.mem_append_right _ (List.mem_append_left _ (List.mem_of_getElem? (i := 79) rfl)))))
theorem sg_cw60 : Cond.code (sg_my 60) (sg_mc 60) (sg_ml 60) (sg_mr 60) ∈ lw_tbl := List.mem_append_right _ (List.mem_append_left _ (List.mem_of_getElem? (i := 20) rfl))
theorem sg_cw61 : Cond.code (sg_my 61) (sg_mc 61) (sg_ml 61) (sg_mr 61) ∈ lw_tbl := List.mem_append_right _ (List.mem_append_right _ (List.mem_append_left _ (List.mem_of_getElem? (i := 143) rfl)))
theorem sg_cw62 : Cond.code (sg_my 62) (sg_mc 62) (sg_ml 62) (sg_mr 62) ∈ lw_tbl := List.mem_append_right _ (List.mem_append_right _ (List.mem_append_left _ (List.mem_of_getElem? (i := 153) rfl)))
theorem sg_cw63 : Cond.code (sg_my 63) (sg_mc 63) (sg_ml 63) (sg_mr 63) ∈ lw_tbl := List.mem_append_right _ (List.mem_append_right _ (List.mem_append_left _ (List.mem_of_getElem? (i := 180) rfl)))
theorem sg_cw64 : Cond.code (sg_my 64) (sg_mc 64) (sg_ml 64) (sg_mr 64) ∈ lw_tbl := List.mem_append_right _ (List.mem_append_right _ (List.mem_append_left _ (List.mem_of_getElem? (i := 198) rfl)))
theorem sg_cw65 : Cond.code (sg_my 65) (sg_mc 65) (sg_ml 65) (sg_mr 65) ∈ lw_tbl := List.mem_append_right _ (List.mem_append_right _ (List.mem_append_left _ (List.mem_of_getElem? (i := 206) rfl)))
theorem sg_cw66 : Cond.code (sg_my 66) (sg_mc 66) (sg_ml 66) (sg_mr 66) ∈ lw_tbl := List.mem_append_right _ (List.mem_append_right _ (List.mem_append_left _ (List.mem_of_getElem? (i := 210) rfl)))
theorem sg_cw67 : Cond.code (sg_my 67) (sg_mc 67) (sg_ml 67) (sg_mr 67) ∈ lw_tbl := List.mem_append_right _ (List.mem_append_right _ (List.mem_append_left _ (List.mem_of_getElem? (i := 218) rfl)))
theorem sg_cw68 : Cond.code (sg_my 68) (sg_mc 68) (sg_ml 68) (sg_mr 68) ∈ lw_tbl := List.mem_append_right _ (List.mem_append_right _ (List.mem_append_right _ (List.mem_append_left _ (List.mem_of_getElem? (i := 10) rfl))))
theorem sg_cw69 : Cond.code (sg_my 69) (sg_mc 69) (sg_ml 69) (sg_mr 69) ∈ lw_tbl := List.mem_append_right _ (List.mem_append_right _ (List.mem_append_right _ (List.mem_append_left _ (List.mem_of_getElem? (i := 18) rfl))))
theorem sg_cw70 : Cond.code (sg_my 70) (sg_mc 70) (sg_ml 70) (sg_mr 70) ∈ lw_tbl := List.mem_append_right _ (List.mem_append_right _ (List.mem_append_right _ (List.mem_append_left _ (List.mem_of_getElem? (i := 26) rfl))))
theorem sg_cw71 : Cond.code (sg_my 71) (sg_mc 71) (sg_ml 71) (sg_mr 71) ∈ lw_tbl := List.mem_append_right _ (List.mem_append_right _ (List.mem_append_right _ (List.mem_append_left _ (List.mem_of_getElem? (i := 33) rfl))))
theorem sg_cw72 : Cond.code (sg_my 72) (sg_mc 72) (sg_ml 72) (sg_mr 72) ∈ lw_tbl := List.mem_append_right _ (List.mem_append_right _ (List.mem_append_right _ (List.mem_append_left _ (List.mem_of_getElem? (i := 46) rfl))))
theorem sg_cw73 : Cond.code (sg_my 73) (sg_mc 73) (sg_ml 73) (sg_mr 73) ∈ lw_tbl := List.mem_append_right _ (List.mem_append_right _ (List.mem_append_right _ (List.mem_append_left _ (List.mem_of_getElem? (i := 139) rfl))))
theorem sg_cw74 : Cond.code (sg_my 74) (sg_mc 74) (sg_ml 74) (sg_mr 74) ∈ lw_tbl := List.mem_append_right _ (List.mem_append_right _ (List.mem_append_right _ (List.mem_append_left _ (List.mem_of_getElem? (i := 146) rfl))))
theorem sg_cw75 : Cond.code (sg_my 75) (sg_mc 75) (sg_ml 75) (sg_mr 75) ∈ lw_tbl := List.mem_append_right _ (List.mem_append_right _ (List.mem_append_right _ (List.mem_append_left _ (List.mem_of_getElem? (i := 150) rfl))))
theorem sg_cw76 : Cond.code (sg_my 76) (sg_mc 76) (sg_ml 76) (sg_mr 76) ∈ lw_tbl := List.mem_append_right _ (List.mem_append_right _ (List.mem_append_right _ (List.mem_append_left _ (List.mem_of_getElem? (i := 154) rfl))))
theorem sg_cw77 : Cond.code (sg_my 77) (sg_mc 77) (sg_ml 77) (sg_mr 77) ∈ lw_tbl := List.mem_append_right _ (List.mem_append_right _ (List.mem_append_right _ (List.mem_append_left _ (List.mem_of_getElem? (i := 158) rfl))))
theorem sg_cw78 : Cond.code (sg_my 78) (sg_mc 78) (sg_ml 78) (sg_mr 78) ∈ lw_tbl := List.mem_append_right _ (List.mem_append_right _ (List.mem_append_right _ (List.mem_append_left _ (List.mem_of_getElem? (i := 167) rfl))))
theorem sg_cw79 : Cond.code (sg_my 79) (sg_mc 79) (sg_ml 79) (sg_mr 79) ∈ lw_tbl := List.mem_append_right _ (List.mem_append_right _ (List.mem_append_right _ (List.mem_append_left _ (List.mem_of_getElem? (i := 175) rfl))))
theorem sg_cw80 : Cond.code (sg_my 80) (sg_mc 80) (sg_ml 80) (sg_mr 80) ∈ lw_tbl := List.mem_append_right _ (List.mem_append_right _ (List.mem_append_right _ (List.mem_append_left _ (List.mem_of_getElem? (i := 183) rfl))))
theorem sg_cw81 : Cond.code (sg_my 81) (sg_mc 81) (sg_ml 81) (sg_mr 81) ∈ lw_tbl := List.mem_append_right _ (List.mem_append_right _ (List.mem_append_right _ (List.mem_append_left _ (List.mem_of_getElem? (i := 195) rfl))))
theorem sg_cw82 : Cond.code (sg_my 82) (sg_mc 82) (sg_ml 82) (sg_mr 82) ∈ lw_tbl := List.mem_append_right _ (List.mem_append_right _ (List.mem_append_right _ (List.mem_append_left _ (List.mem_of_getElem? (i := 214) rfl))))
theorem sg_cw83 : Cond.code (sg_my 83) (sg_mc 83) (sg_ml 83) (sg_mr 83) ∈ lw_tbl := List.mem_append_right _ (List.mem_append_right _ (List.mem_append_right _ (List.mem_append_right _ (List.mem_append_left _ (List.mem_of_getElem? (i := 0) rfl)))))
theorem sg_cw84 : Cond.code (sg_my 84) (sg_mc 84) (sg_ml 84) (sg_mr 84) ∈ lw_tbl := List.mem_append_right _ (List.mem_append_right _ (List.mem_append_right _ (List.mem_append_right _ (List.mem_append_left _ (List.mem_of_getElem? (i := 8) rfl)))))
theorem sg_cw85 : Cond.code (sg_my 85) (sg_mc 85) (sg_ml 85) (sg_mr 85) ∈ lw_tbl := List.mem_append_right _ (List.mem_append_right _ (List.mem_append_right _ (List.mem_append_right _ (List.mem_append_left _ (List.mem_of_getElem? (i := 12) rfl)))))
theorem sg_cw86 : Cond.code (sg_my 86) (sg_mc 86) (sg_ml 86) (sg_mr 86) ∈ lw_tbl := List.mem_append_right _ (List.mem_append_right _ (List.mem_append_right _ (List.mem_append_right _ (List.mem_append_left _ (List.mem_of_getElem? (i := 31) rfl)))))
theorem sg_cw87 : Cond.code (sg_my 87) (sg_mc 87) (sg_ml 87) (sg_mr 87) ∈ lw_tbl := List.mem_append_right _ (List.mem_append_right _ (List.mem_append_right _ (List.mem_append_right _ (List.mem_append_left _ (List.mem_of_getElem? (i := 40) rfl)))))
theorem sg_cw88 : Cond.code (sg_my 88) (sg_mc 88) (sg_ml 88) (sg_mr 88) ∈ lw_tbl := List.mem_append_right _ (List.mem_append_right _ (List.mem_append_right _ (List.mem_append_right _ (List.mem_append_left _ (List.mem_of_getElem? (i := 46) rfl)))))
theorem sg_cw89 : Cond.code (sg_my 89) (sg_mc 89) (sg_ml 89) (sg_mr 89) ∈ lw_tbl := List.mem_append_right _ (List.mem_append_right _ (List.mem_append_right _ (List.mem_append_right _ (List.mem_append_left _ (List.mem_of_getElem? (i := 83) rfl)))))
theorem sg_cw90 : Cond.code (sg_my 90) (sg_mc 90) (sg_ml 90) (sg_mr 90) ∈ lw_tbl := List.mem_append_right _ (List.mem_append_right _ (List.mem_append_right _ (List.mem_append_right _ (List.mem_append_left _ (List.mem_of_getElem? (i := 100) rfl)))))
theorem sg_cw91 : Cond.code (sg_my 91) (sg_mc 91) (sg_ml 91) (sg_mr 91) ∈ lw_tbl := List.mem_append_right _ (List.mem_append_right _ (List.mem_append_right _ (List.mem_append_right _ (List.mem_append_left _ (List.mem_of_getElem? (i := 108) rfl)))))
theorem sg_cw92 : Cond.code (sg_my 92) (sg_mc 92) (sg_ml 92) (sg_mr 92) ∈ lw_tbl := List.mem_append_right _ (List.mem_append_right _ (List.mem_append_right _ (List.mem_append_right _ (List.mem_append_left _ (List.mem_of_getElem? (i := 125) rfl)))))
theorem sg_cw93 : Cond.code (sg_my 93) (sg_mc 93) (sg_ml 93) (sg_mr 93) ∈ lw_tbl := List.mem_append_right _ (List.mem_append_right _ (List.mem_append_right _ (List.mem_append_right _ (List.mem_append_left _ (List.mem_of_getElem? (i := 130) rfl)))))
theorem sg_cw94 : Cond.code (sg_my 94) (sg_mc 94) (sg_ml 94) (sg_mr 94) ∈ lw_tbl := List.mem_append_right _ (List.mem_append_right _ (List.mem_append_right _ (List.mem_append_right _ (List.mem_append_left _ (List.mem_of_getElem? (i := 144) rfl)))))
theorem sg_cw95 : Cond.code (sg_my 95) (sg_mc 95) (sg_ml 95) (sg_mr 95) ∈ lw_tbl := List.mem_append_right _ (List.mem_append_right _ (List.mem_append_right _ (List.mem_append_right _ (List.mem_append_left _ (List.mem_of_getElem? (i := 148) rfl)))))
theorem sg_cw96 : Cond.code (sg_my 96) (sg_mc 96) (sg_ml 96) (sg_mr 96) ∈ lw_tbl := List.mem_append_right _ (List.mem_append_right _ (List.mem_append_right _ (List.mem_append_right _ (List.mem_append_left _ (List.mem_of_getElem? (i := 157) rfl)))))
theorem sg_cw97 : Cond.code (sg_my 97) (sg_mc 97) (sg_ml 97) (sg_mr 97) ∈ lw_tbl := List.mem_append_right _ (List.mem_append_right _ (List.mem_append_right _ (List.mem_append_right _ (List.mem_append_left _ (List.mem_of_getElem? (i := 163) rfl)))))
theorem sg_cw98 : Cond.code (sg_my 98) (sg_mc 98) (sg_ml 98) (sg_mr 98) ∈ lw_tbl := List.mem_append_right _ (List.mem_append_right _ (List.mem_append_left _ (List.mem_of_getElem? (i := 149) rfl)))
theorem sg_cw99 : Cond.code (sg_my 99) (sg_mc 99) (sg_ml 99) (sg_mr 99) ∈ lw_tbl := List.mem_append_right _ (List.mem_append_right _ (List.mem_append_left _ (List.mem_of_getElem? (i := 146) rfl)))
theorem sg_cw100 : Cond.code (sg_my 100) (sg_mc 100) (sg_ml 100) (sg_mr 100) ∈ lw_tbl := List.mem_append_right _ (List.mem_append_right _ (List.mem_append_left _ (List.mem_of_getElem? (i := 186) rfl)))
theorem sg_cw101 : Cond.code (sg_my 101) (sg_mc 101) (sg_ml 101) (sg_mr 101) ∈ lw_tbl := List.mem_append_right _ (List.mem_append_right _ (List.mem_append_right _ (List.mem_append_left _ (List.mem_of_getElem? (i := 142) rfl))))
theorem sg_cw102 : Cond.code (sg_my 102) (sg_mc 102) (sg_ml 102) (sg_mr 102) ∈ lw_tbl := List.mem_append_right _ (List.mem_append_right _ (List.mem_append_right _ (List.mem_append_left _ (List.mem_of_getElem? (i := 29) rfl))))
theorem sg_cw103 : Cond.code (sg_my 103) (sg_mc 103) (sg_ml 103) (sg_mr 103) ∈ lw_tbl := List.mem_append_right _ (List.mem_append_right _ (List.mem_append_right _ (List.mem_append_left _ (List.mem_of_getElem? (i := 206) rfl))))
theorem sg_cw104 : Cond.code (sg_my 104) (sg_mc 104) (sg_ml 104) (sg_mr 104) ∈ lw_tbl := List.mem_append_right _ (List.mem_append_right _ (List.mem_append_left _ (List.mem_of_getElem? (i := 214) rfl)))
theorem sg_cw105 : Cond.code (sg_my 105) (sg_mc 105) (sg_ml 105) (sg_mr 105) ∈ lw_tbl := List.mem_append_right _ (List.mem_append_right _ (List.mem_append_right _ (List.mem_append_left _ (List.mem_of_getElem? (i := 37) rfl))))
theorem sg_cw106 : Cond.code (sg_my 106) (sg_mc 106) (sg_ml 106) (sg_mr 106) ∈ lw_tbl := List.mem_append_right _ (List.mem_append_right _ (List.mem_append_right _ (List.mem_append_right _ (List.mem_append_left _ (List.mem_of_getElem? (i := 4) rfl)))))
theorem sg_cw107 : Cond.code (sg_my 107) (sg_mc 107) (sg_ml 107) (sg_mr 107) ∈ lw_tbl := List.mem_append_right _ (List.mem_append_right _ (List.mem_append_right _ (List.mem_append_left _ (List.mem_of_getElem? (i := 41) rfl))))
theorem sg_cw108 : Cond.code (sg_my 108) (sg_mc 108) (sg_ml 108) (sg_mr 108) ∈ lw_tbl := List.mem_append_right _ (List.mem_append_right _ (List.mem_append_right _ (List.mem_append_left _ (List.mem_of_getElem? (i := 50) rfl))))
theorem sg_cw109 : Cond.code (sg_my 109) (sg_mc 109) (sg_ml 109) (sg_mr 109) ∈ lw_tbl := List.mem_append_right _ (List.mem_append_right _ (List.mem_append_right _ (List.mem_append_left _ (List.mem_of_getElem? (i := 162) rfl))))
theorem sg_cw110 : Cond.code (sg_my 110) (sg_mc 110) (sg_ml 110) (sg_mr 110) ∈ lw_tbl := List.mem_append_right _ (List.mem_append_right _ (List.mem_append_right _ (List.mem_append_left _ (List.mem_of_getElem? (i := 179) rfl))))
theorem sg_cw111 : Cond.code (sg_my 111) (sg_mc 111) (sg_ml 111) (sg_mr 111) ∈ lw_tbl := List.mem_append_right _ (List.mem_append_right _ (List.mem_append_right _ (List.mem_append_left _ (List.mem_of_getElem? (i := 187) rfl))))
theorem sg_cw112 : Cond.code (sg_my 112) (sg_mc 112) (sg_ml 112) (sg_mr 112) ∈ lw_tbl := List.mem_append_right _ (List.mem_append_right _ (List.mem_append_right _ (List.mem_append_left _ (List.mem_of_getElem? (i := 191) rfl))))
theorem sg_cw113 : Cond.code (sg_my 113) (sg_mc 113) (sg_ml 113) (sg_mr 113) ∈ lw_tbl := List.mem_append_right _ (List.mem_append_right _ (List.mem_append_right _ (List.mem_append_left _ (List.mem_of_getElem? (i := 203) rfl))))
theorem sg_cw114 : Cond.code (sg_my 114) (sg_mc 114) (sg_ml 114) (sg_mr 114) ∈ lw_tbl := List.mem_append_right _ (List.mem_append_right _ (List.mem_append_right _ (List.mem_append_left _ (List.mem_of_getElem? (i := 218) rfl))))
theorem sg_cw115 : Cond.code (sg_my 115) (sg_mc 115) (sg_ml 115) (sg_mr 115) ∈ lw_tbl := List.mem_append_right _ (List.mem_append_right _ (List.mem_append_right _ (List.mem_append_right _ (List.mem_append_left _ (List.mem_of_getElem? (i := 16) rfl)))))
theorem sg_cw116 : Cond.code (sg_my 116) (sg_mc 116) (sg_ml 116) (sg_mr 116) ∈ lw_tbl := List.mem_append_right _ (List.mem_append_right _ (List.mem_append_right _ (List.mem_append_right _ (List.mem_append_left _ (List.mem_of_getElem? (i := 20) rfl)))))
theorem sg_cw117 : Cond.code (sg_my 117) (sg_mc 117) (sg_ml 117) (sg_mr 117) ∈ lw_tbl := List.mem_append_right _ (List.mem_append_right _ (List.mem_append_right _ (List.mem_append_right _ (List.mem_append_left _ (List.mem_of_getElem? (i := 27) rfl)))))
theorem sg_cw118 : Cond.code (sg_my 118) (sg_mc 118) (sg_ml 118) (sg_mr 118) ∈ lw_tbl := List.mem_append_right _ (List.mem_append_right _ (List.mem_append_right _ (List.mem_append_right _ (List.mem_append_left _ (List.mem_of_getElem? (i := 36) rfl)))))
theorem sg_cw119 : Cond.code (sg_my 119) (sg_mc 119) (sg_ml 119) (sg_mr 119) ∈ lw_tbl := List.mem_append_right _ (List.mem_append_right _ (List.mem_append_right _ (List.mem_append_right _ (List.mem_append_left _ (List.mem_of_getElem? (i := 50) rfl)))))
theorem sg_cw120 : Cond.code (sg_my 120) (sg_mc 120) (sg_ml 120) (sg_mr 120) ∈ lw_tbl := List.mem_append_right _ (List.mem_append_right _ (List.mem_append_right _ (List.mem_append_right _ (List.mem_append_left _ (List.mem_of_getElem? (i := 168) rfl)))))
theorem sg_cw121 : Cond.code (sg_my 121) (sg_mc 121) (sg_ml 121) (sg_mr 121) ∈ lw_tbl := List.mem_append_right _ (List.mem_append_right _ (List.mem_append_right _ (List.mem_append_right _ (List.mem_append_right _ (List.mem_append_left _ (List.mem_of_getElem? (i := 88) rfl))))))
theorem sg_cw122 : Cond.code (sg_my 122) (sg_mc 122) (sg_ml 122) (sg_mr 122) ∈ lw_tbl := List.mem_append_right _ (List.mem_append_right _ (List.mem_append_right _ (List.mem_append_right _ (List.mem_append_right _ (List.mem_append_left _ (List.mem_of_getElem? (i := 93) rfl))))))
theorem sg_cw123 : Cond.code (sg_my 123) (sg_mc 123) (sg_ml 123) (sg_mr 123) ∈ lw_tbl := List.mem_append_right _ (List.mem_append_right _ (List.mem_append_right _ (List.mem_append_right _ (List.mem_append_right _ (List.mem_append_left _ (List.mem_of_getElem? (i := 84) rfl))))))
theorem sg_cw124 : Cond.code (sg_my 124) (sg_mc 124) (sg_ml 124) (sg_mr 124) ∈ lw_tbl := List.mem_append_right _ (List.mem_append_right _ (List.mem_append_right _ (List.mem_append_right _ (List.mem_append_right _ (List.mem_append_left _ (List.mem_of_getElem? (i := 81) rfl))))))
theorem sg_cw125 : Cond.code (sg_my 125) (sg_mc 125) (sg_ml 125) (sg_mr 125) ∈ lw_tbl := List.mem_append_right _ (List.mem_append_right _ (List.mem_append_right _ (List.mem_append_right _ (List.mem_append_right _ (List.mem_append_left _ (List.mem_of_getElem? (i := 97) rfl))))))
theorem sg_cw126 : Cond.code (sg_my 126) (sg_mc 126) (sg_ml 126) (sg_mr 126) ∈ lw_tbl := List.mem_append_right _ (List.mem_append_right _ (List.mem_append_right _ (List.mem_append_right _ (List.mem_append_right _ (List.mem_append_left _ (List.mem_of_getElem? (i := 105) rfl))))))
theorem sg_cw127 : Cond.code (sg_my 127) (sg_mc 127) (sg_ml 127) (sg_mr 127) ∈ lw_tbl := List.mem_append_right _ (List.mem_append_right _ (List.mem_append_right _ (List.mem_append_right _ (List.mem_append_right _ (List.mem_append_left _ (List.mem_of_getElem? (i := 108) rfl))))))
theorem sg_cw128 : Cond.code (sg_my 128) (sg_mc 128) (sg_ml 128) (sg_mr 128) ∈ lw_tbl := List.mem_append_right _ (List.mem_append_right _ (List.mem_append_right _ (List.mem_append_right _ (List.mem_append_right _ (List.mem_append_left _ (List.mem_of_getElem? (i := 101) rfl))))))
theorem sg_cw129 : Cond.code (sg_my 129) (sg_mc 129) (sg_ml 129) (sg_mr 129) ∈ lw_tbl := List.mem_append_right _ (List.mem_append_right _ (List.mem_append_right _ (List.mem_append_right _ (List.mem_append_right _ (List.mem_append_left _ (List.mem_of_getElem? (i := 112) rfl))))))
theorem sg_cw130 : Cond.code (sg_my 130) (sg_mc 130) (sg_ml 130) (sg_mr 130) ∈ lw_tbl := List.mem_append_right _ (List.mem_append_right _ (List.mem_append_right _ (List.mem_append_right _ (List.mem_append_right _ (List.mem_append_left _ (List.mem_of_getElem? (i := 117) rfl))))))
theorem sg_cw131 : Cond.code (sg_my 131) (sg_mc 131) (sg_ml 131) (sg_mr 131) ∈ lw_tbl := List.mem_append_right _ (List.mem_append_right _ (List.mem_append_right _ (List.mem_append_right _ (List.mem_append_right _ (List.mem_append_left _ (List.mem_of_getElem? (i := 137) rfl))))))
theorem sg_cw132 : Cond.code (sg_my 132) (sg_mc 132) (sg_ml 132) (sg_mr 132) ∈ lw_tbl := List.mem_append_right _ (List.mem_append_right _ (List.mem_append_right _ (List.mem_append_right _ (List.mem_append_right _ (List.mem_append_left _ (List.mem_of_getElem? (i := 124) rfl))))))
theorem sg_cw133 : Cond.code (sg_my 133) (sg_mc 133) (sg_ml 133) (sg_mr 133) ∈ lw_tbl := List.mem_append_right _ (List.mem_append_right _ (List.mem_append_right _ (List.mem_append_right _ (List.mem_append_right _ (List.mem_append_left _ (List.mem_of_getElem? (i := 128) rfl))))))
theorem sg_cw134 : Cond.code (sg_my 134) (sg_mc 134) (sg_ml 134) (sg_mr 134) ∈ lw_tbl := List.mem_append_right _ (List.mem_append_right _ (List.mem_append_right _ (List.mem_append_right _ (List.mem_append_right _ (List.mem_append_left _ (List.mem_of_getElem? (i := 121) rfl))))))
theorem sg_cw135 : Cond.code (sg_my 135) (sg_mc 135) (sg_ml 135) (sg_mr 135) ∈ lw_tbl := List.mem_append_right _ (List.mem_append_right _ (List.mem_append_right _ (List.mem_append_right _ (List.mem_append_right _ (List.mem_append_left _ (List.mem_of_getElem? (i := 133) rfl))))))
theorem sg_cw136 : Cond.code (sg_my 136) (sg_mc 136) (sg_ml 136) (sg_mr 136) ∈ lw_tbl := List.mem_append_right _ (List.mem_append_right _ (List.mem_append_right _ (List.mem_append_right _ (List.mem_append_right _ (List.mem_append_left _ (List.mem_of_getElem? (i := 145) rfl))))))
theorem sg_cw137 : Cond.code (sg_my 137) (sg_mc 137) (sg_ml 137) (sg_mr 137) ∈ lw_tbl := List.mem_append_right _ (List.mem_append_right _ (List.mem_append_right _ (List.mem_append_right _ (List.mem_append_right _ (List.mem_append_left _ (List.mem_of_getElem? (i := 142) rfl))))))
theorem sg_cw138 : Cond.code (sg_my 138) (sg_mc 138) (sg_ml 138) (sg_mr 138) ∈ lw_tbl := List.mem_append_right _ (List.mem_append_right _ (List.mem_append_right _ (List.mem_append_right _ (List.mem_append_right _ (List.mem_append_left _ (List.mem_of_getElem? (i := 153) rfl))))))
theorem sg_cw139 : Cond.code (sg_my 139) (sg_mc 139) (sg_ml 139) (sg_mr 139) ∈ lw_tbl := List.mem_append_right _ (List.mem_append_right _ (List.mem_append_right _ (List.mem_append_right _ (List.mem_append_right _ (List.mem_append_left _ (List.mem_of_getElem? (i := 156) rfl))))))
theorem sg_cw140 : Cond.code (sg_my 140) (sg_mc 140) (sg_ml 140) (sg_mr 140) ∈ lw_tbl := List.mem_append_right _ (List.mem_append_right _ (List.mem_append_right _ (List.mem_append_right _ (List.mem_append_right _ (List.mem_append_left _ (List.mem_of_getElem? (i := 149) rfl))))))
theorem sg_cw141 : Cond.code (sg_my 141) (sg_mc 141) (sg_ml 141) (sg_mr 141) ∈ lw_tbl := List.mem_append_right _ (List.mem_append_right _ (List.mem_append_right _ (List.mem_append_right _ (List.mem_append_right _ (List.mem_append_left _ (List.mem_of_getElem? (i := 168) rfl))))))
theorem sg_cw142 : Cond.code (sg_my 142) (sg_mc 142) (sg_ml 142) (sg_mr 142) ∈ lw_tbl := List.mem_append_right _ (List.mem_append_right _ (List.mem_append_right _ (List.mem_append_right _ (List.mem_append_right _ (List.mem_append_left _ (List.mem_of_getElem? (i := 160) rfl))))))
theorem sg_cw143 : Cond.code (sg_my 143) (sg_mc 143) (sg_ml 143) (sg_mr 143) ∈ lw_tbl := List.mem_append_right _ (List.mem_append_right _ (List.mem_append_right _ (List.mem_append_right _ (List.mem_append_right _ (List.mem_append_left _ (List.mem_of_getElem? (i := 164) rfl))))))
theorem sg_cw144 : Cond.code (sg_my 144) (sg_mc 144) (sg_ml 144) (sg_mr 144) ∈ lw_tbl := List.mem_append_right _ (List.mem_append_right _ (List.mem_append_right _ (List.mem_append_right _ (List.mem_append_right _ (List.mem_append_left _ (List.mem_of_getElem? (i := 172) rfl))))))
theorem sg_cw145 : Cond.code (sg_my 145) (sg_mc 145) (sg_ml 145) (sg_mr 145) ∈ lw_tbl := List.mem_append_right _ (List.mem_append_right _ (List.mem_append_right _ (List.mem_append_right _ (List.mem_append_right _ (List.mem_append_left _ (List.mem_of_getElem? (i := 177) rfl))))))
theorem sg_cw146 : Cond.code (sg_my 146) (sg_mc 146) (sg_ml 146) (sg_mr 146) ∈ lw_tbl := List.mem_append_right _ (List.mem_append_right _ (List.mem_append_right _ (List.mem_append_right _ (List.mem_append_right _ (List.mem_append_left _ (List.mem_of_getElem? (i := 193) rfl))))))
theorem sg_cw147 : Cond.code (sg_my 147) (sg_mc 147) (sg_ml 147) (sg_mr 147) ∈ lw_tbl := List.mem_append_right _ (List.mem_append_right _ (List.mem_append_right _ (List.mem_append_right _ (List.mem_append_right _ (List.mem_append_left _ (List.mem_of_getElem? (i := 189) rfl))))))
theorem sg_cw148 : Cond.code (sg_my 148) (sg_mc 148) (sg_ml 148) (sg_mr 148) ∈ lw_tbl := List.mem_append_right _ (List.mem_append_right _ (List.mem_append_right _ (List.mem_append_right _ (List.mem_append_right _ (List.mem_append_left _ (List.mem_of_getElem? (i := 185) rfl))))))
theorem sg_cw149 : Cond.code (sg_my 149) (sg_mc 149) (sg_ml 149) (sg_mr 149) ∈ lw_tbl := List.mem_append_right _ (List.mem_append_right _ (List.mem_append_right _ (List.mem_append_right _ (List.mem_append_right _ (List.mem_append_left _ (List.mem_of_getElem? (i := 181) rfl))))))
theorem sg_cw150 : Cond.code (sg_my 150) (sg_mc 150) (sg_ml 150) (sg_mr 150) ∈ lw_tbl := List.mem_append_right _ (List.mem_append_right _ (List.mem_append_right _ (List.mem_append_right _ (List.mem_append_right _ (List.mem_append_left _ (List.mem_of_getElem? (i := 213) rfl))))))
theorem sg_cw151 : Cond.code (sg_my 151) (sg_mc 151) (sg_ml 151) (sg_mr 151) ∈ lw_tbl := List.mem_append_right _ (List.mem_append_right _ (List.mem_append_right _ (List.mem_append_right _ (List.mem_append_right _ (List.mem_append_right _ (List.mem_of_getElem? (i := 101) rfl))))))
theorem sg_cw152 : Cond.code (sg_my 152) (sg_mc 152) (sg_ml 152) (sg_mr 152) ∈ lw_tbl := List.mem_append_right _ (List.mem_append_right _ (List.mem_append_right _ (List.mem_append_right _ (List.mem_append_right _ (List.mem_append_left _ (List.mem_of_getElem? (i := 203) rfl))))))
theorem sg_cw153 : Cond.code (sg_my 153) (sg_mc 153) (sg_ml 153) (sg_mr 153) ∈ lw_tbl := List.mem_append_right _ (List.mem_append_right _ (List.mem_append_right _ (List.mem_append_right _ (List.mem_append_right _ (List.mem_append_left _ (List.mem_of_getElem? (i := 200) rfl))))))
theorem sg_cw154 : Cond.code (sg_my 154) (sg_mc 154) (sg_ml 154) (sg_mr 154) ∈ lw_tbl := List.mem_append_right _ (List.mem_append_right _ (List.mem_append_right _ (List.mem_append_right _ (List.mem_append_right _ (List.mem_append_left _ (List.mem_of_getElem? (i := 209) rfl))))))
theorem sg_cw155 : Cond.code (sg_my 155) (sg_mc 155) (sg_ml 155) (sg_mr 155) ∈ lw_tbl := List.mem_append_right _ (List.mem_append_right _ (List.mem_append_right _ (List.mem_append_right _ (List.mem_append_right _ (List.mem_append_right _ (List.mem_of_getElem? (i := 3) rfl))))))
theorem sg_cw156 : Cond.code (sg_my 156) (sg_mc 156) (sg_ml 156) (sg_mr 156) ∈ lw_tbl := List.mem_append_right _ (List.mem_append_right _ (List.mem_append_right _ (List.mem_append_right _ (List.mem_append_right _ (List.mem_append_left _ (List.mem_of_getElem? (i := 235) rfl))))))
theorem sg_cw157 : Cond.code (sg_my 157) (sg_mc 157) (sg_ml 157) (sg_mr 157) ∈ lw_tbl := List.mem_append_right _ (List.mem_append_right _ (List.mem_append_right _ (List.mem_append_right _ (List.mem_append_right _ (List.mem_append_left _ (List.mem_of_getElem? (i := 231) rfl))))))
theorem sg_cw158 : Cond.code (sg_my 158) (sg_mc 158) (sg_ml 158) (sg_mr 158) ∈ lw_tbl := List.mem_append_right _ (List.mem_append_right _ (List.mem_append_right _ (List.mem_append_right _ (List.mem_append_right _ (List.mem_append_right _ (List.mem_of_getElem? (i := 15) rfl))))))
theorem sg_cw159 : Cond.code (sg_my 159) (sg_mc 159) (sg_ml 159) (sg_mr 159) ∈ lw_tbl := List.mem_append_right _ (List.mem_append_right _ (List.mem_append_right _ (List.mem_append_right _ (List.mem_append_right _ (List.mem_append_right _ (List.mem_of_getElem? (i := 11) rfl))))))
theorem sg_cw160 : Cond.code (sg_my 160) (sg_mc 160) (sg_ml 160) (sg_mr 160) ∈ lw_tbl := List.mem_append_right _ (List.mem_append_right _ (List.mem_append_right _ (List.mem_append_right _ (List.mem_append_right _ (List.mem_append_right _ (List.mem_of_getElem? (i := 7) rfl))))))
theorem sg_cw161 : Cond.code (sg_my 161) (sg_mc 161) (sg_ml 161) (sg_mr 161) ∈ lw_tbl := List.mem_append_right _ (List.mem_append_right _ (List.mem_append_right _ (List.mem_append_right _ (List.mem_append_right _ (List.mem_append_left _ (List.mem_of_getElem? (i := 239) rfl))))))
theorem sg_cw162 : Cond.code (sg_my 162) (sg_mc 162) (sg_ml 162) (sg_mr 162) ∈ lw_tbl := List.mem_append_right _ (List.mem_append_right _ (List.mem_append_right _ (List.mem_append_right _ (List.mem_append_right _ (List.mem_append_right _ (List.mem_of_getElem? (i := 19) rfl))))))
theorem sg_cw163 : Cond.code (sg_my 163) (sg_mc 163) (sg_ml 163) (sg_mr 163) ∈ lw_tbl := List.mem_append_right _ (List.mem_append_right _ (List.mem_append_right _ (List.mem_append_right _ (List.mem_append_right _ (List.mem_append_left _ (List.mem_of_getElem? (i := 227) rfl))))))
theorem sg_cw164 : Cond.code (sg_my 164) (sg_mc 164) (sg_ml 164) (sg_mr 164) ∈ lw_tbl := List.mem_append_right _ (List.mem_append_right _ (List.mem_append_right _ (List.mem_append_right _ (List.mem_append_right _ (List.mem_append_left _ (List.mem_of_getElem? (i := 223) rfl))))))
theorem sg_cw165 : Cond.code (sg_my 165) (sg_mc 165) (sg_ml 165) (sg_mr 165) ∈ lw_tbl := List.mem_append_right _ (List.mem_append_right _ (List.mem_append_right _ (List.mem_append_right _ (List.mem_append_right _ (List.mem_append_left _ (List.mem_of_getElem? (i := 218) rfl))))))
theorem sg_cw166 : Cond.code (sg_my 166) (sg_mc 166) (sg_ml 166) (sg_mr 166) ∈ lw_tbl := List.mem_append_right _ (List.mem_append_right _ (List.mem_append_right _ (List.mem_append_right _ (List.mem_append_right _ (List.mem_append_right _ (List.mem_of_getElem? (i := 26) rfl))))))
theorem sg_cw167 : Cond.code (sg_my 167) (sg_mc 167) (sg_ml 167) (sg_mr 167) ∈ lw_tbl := List.mem_append_right _ (List.mem_append_right _ (List.mem_append_right _ (List.mem_append_right _ (List.mem_append_right _ (List.mem_append_right _ (List.mem_of_getElem? (i := 23) rfl))))))
theorem sg_cw168 : Cond.code (sg_my 168) (sg_mc 168) (sg_ml 168) (sg_mr 168) ∈ lw_tbl := List.mem_append_right _ (List.mem_append_right _ (List.mem_append_right _ (List.mem_append_right _ (List.mem_append_right _ (List.mem_append_right _ (List.mem_of_getElem? (i := 31) rfl))))))
theorem sg_cw169 : Cond.code (sg_my 169) (sg_mc 169) (sg_ml 169) (sg_mr 169) ∈ lw_tbl := List.mem_append_right _ (List.mem_append_right _ (List.mem_append_right _ (List.mem_append_right _ (List.mem_append_right _ (List.mem_append_right _ (List.mem_of_getElem? (i := 39) rfl))))))
theorem sg_cw170 : Cond.code (sg_my 170) (sg_mc 170) (sg_ml 170) (sg_mr 170) ∈ lw_tbl := List.mem_append_right _ (List.mem_append_right _ (List.mem_append_right _ (List.mem_append_right _ (List.mem_append_right _ (List.mem_append_right _ (List.mem_of_getElem? (i := 47) rfl))))))
theorem sg_cw171 : Cond.code (sg_my 171) (sg_mc 171) (sg_ml 171) (sg_mr 171) ∈ lw_tbl := List.mem_append_right _ (List.mem_append_right _ (List.mem_append_right _ (List.mem_append_right _ (List.mem_append_right _ (List.mem_append_right _ (List.mem_of_getElem? (i := 35) rfl))))))
theorem sg_cw172 : Cond.code (sg_my 172) (sg_mc 172) (sg_ml 172) (sg_mr 172) ∈ lw_tbl := List.mem_append_right _ (List.mem_append_right _ (List.mem_append_right _ (List.mem_append_right _ (List.mem_append_right _ (List.mem_append_right _ (List.mem_of_getElem? (i := 43) rfl))))))
theorem sg_cw173 : Cond.code (sg_my 173) (sg_mc 173) (sg_ml 173) (sg_mr 173) ∈ lw_tbl := List.mem_append_right _ (List.mem_append_right _ (List.mem_append_right _ (List.mem_append_right _ (List.mem_append_right _ (List.mem_append_right _ (List.mem_of_getElem? (i := 55) rfl))))))
theorem sg_cw174 : Cond.code (sg_my 174) (sg_mc 174) (sg_ml 174) (sg_mr 174) ∈ lw_tbl := List.mem_append_right _ (List.mem_append_right _ (List.mem_append_right _ (List.mem_append_right _ (List.mem_append_right _ (List.mem_append_right _ (List.mem_of_getElem? (i := 51) rfl))))))
theorem sg_cw175 : Cond.code (sg_my 175) (sg_mc 175) (sg_ml 175) (sg_mr 175) ∈ lw_tbl := List.mem_append_right _ (List.mem_append_right _ (List.mem_append_right _ (List.mem_append_right _ (List.mem_append_right _ (List.mem_append_right _ (List.mem_of_getElem? (i := 59) rfl))))))
theorem sg_cw176 : Cond.code (sg_my 176) (sg_mc 176) (sg_ml 176) (sg_mr 176) ∈ lw_tbl := List.mem_append_right _ (List.mem_append_right _ (List.mem_append_right _ (List.mem_append_right _ (List.mem_append_right _ (List.mem_append_right _ (List.mem_of_getElem? (i := 67) rfl))))))
theorem sg_cw177 : Cond.code (sg_my 177) (sg_mc 177) (sg_ml 177) (sg_mr 177) ∈ lw_tbl := List.mem_append_right _ (List.mem_append_right _ (List.mem_append_right _ (List.mem_append_right _ (List.mem_append_right _ (List.mem_append_right _ (List.mem_of_getElem? (i := 63) rfl))))))
theorem sg_cw178 : Cond.code (sg_my 178) (sg_mc 178) (sg_ml 178) (sg_mr 178) ∈ lw_tbl := List.mem_append_right _ (List.mem_append_right _ (List.mem_append_right _ (List.mem_append_right _ (List.mem_append_right _ (List.mem_append_right _ (List.mem_of_getElem? (i := 75) rfl))))))
theorem sg_cw179 : Cond.code (sg_my 179) (sg_mc 179) (sg_ml 179) (sg_mr 179) ∈ lw_tbl := List.mem_append_right _ (List.mem_append_right _ (List.mem_append_right _ (List.mem_append_right _ (List.mem_append_right _ (List.mem_append_right _ (List.mem_of_getElem? (i := 71) rfl))))))
theorem sg_cw180 : Cond.code (sg_my 180) (sg_mc 180) (sg_ml 180) (sg_mr 180) ∈ lw_tbl := List.mem_append_right _ (List.mem_append_right _ (List.mem_append_right _ (List.mem_append_right _ (List.mem_append_right _ (List.mem_append_right _ (List.mem_of_getElem? (i := 84) rfl))))))
theorem sg_cw181 : Cond.code (sg_my 181) (sg_mc 181) (sg_ml 181) (sg_mr 181) ∈ lw_tbl := List.mem_append_right _ (List.mem_append_right _ (List.mem_append_right _ (List.mem_append_right _ (List.mem_append_right _ (List.mem_append_right _ (List.mem_of_getElem? (i := 79) rfl))))))
theorem sg_cw182 : Cond.code (sg_my 182) (sg_mc 182) (sg_ml 182) (sg_mr 182) ∈ lw_tbl := List.mem_append_right _ (List.mem_append_right _ (List.mem_append_right _ (List.mem_append_right _ (List.mem_append_right _ (List.mem_append_right _ (List.mem_of_getElem? (i := 93) rfl))))))
theorem sg_cw183 : Cond.code (sg_my 183) (sg_mc 183) (sg_ml 183) (sg_mr 183) ∈ lw_tbl := List.mem_append_right _ (List.mem_append_right _ (List.mem_append_right _ (List.mem_append_right _ (List.mem_append_right _ (List.mem_append_right _ (List.mem_of_getElem? (i := 88) rfl))))))
theorem sg_cw184 : Cond.code (sg_my 184) (sg_mc 184) (sg_ml 184) (sg_mr 184) ∈ lw_tbl := List.mem_append_right _ (List.mem_append_right _ (List.mem_append_right _ (List.mem_append_right _ (List.mem_append_right _ (List.mem_append_right _ (List.mem_of_getElem? (i := 97) rfl))))))
theorem sg_cw185 : Cond.code (sg_my 185) (sg_mc 185) (sg_ml 185) (sg_mr 185) ∈ lw_tbl := List.mem_append_right _ (List.mem_append_right _ (List.mem_append_right _ (List.mem_append_right _ (List.mem_append_right _ (List.mem_append_right _ (List.mem_of_getElem? (i := 105) rfl))))))
theorem sg_cw186 : Cond.code (sg_my 186) (sg_mc 186) (sg_ml 186) (sg_mr 186) ∈ lw_tbl := List.mem_append_right _ (List.mem_append_right _ (List.mem_append_right _ (List.mem_append_right _ (List.mem_append_right _ (List.mem_append_right _ (List.mem_of_getElem? (i := 113) rfl))))))
theorem sg_cw187 : Cond.code (sg_my 187) (sg_mc 187) (sg_ml 187) (sg_mr 187) ∈ lw_tbl := List.mem_append_right _ (List.mem_append_right _ (List.mem_append_right _ (List.mem_append_right _ (List.mem_append_right _ (List.mem_append_right _ (List.mem_of_getElem? (i := 121) rfl))))))
theorem sg_cw188 : Cond.code (sg_my 188) (sg_mc 188) (sg_ml 188) (sg_mr 188) ∈ lw_tbl := List.mem_append_right _ (List.mem_append_right _ (List.mem_append_right _ (List.mem_append_right _ (List.mem_append_right _ (List.mem_append_right _ (List.mem_of_getElem? (i := 117) rfl))))))
theorem sg_cw189 : Cond.code (sg_my 189) (sg_mc 189) (sg_ml 189) (sg_mr 189) ∈ lw_tbl := List.mem_append_right _ (List.mem_append_right _ (List.mem_append_right _ (List.mem_append_right _ (List.mem_append_right _ (List.mem_append_right _ (List.mem_of_getElem? (i := 109) rfl))))))
theorem sg_cw190 : Cond.code (sg_my 190) (sg_mc 190) (sg_ml 190) (sg_mr 190) ∈ lw_tbl := List.mem_append_right _ (List.mem_append_right _ (List.mem_append_right _ (List.mem_append_right _ (List.mem_append_right _ (List.mem_append_right _ (List.mem_of_getElem? (i := 125) rfl))))))
theorem sg_cw191 : Cond.code (sg_my 191) (sg_mc 191) (sg_ml 191) (sg_mr 191) ∈ lw_tbl := List.mem_append_right _ (List.mem_append_right _ (List.mem_append_right _ (List.mem_append_right _ (List.mem_append_right _ (List.mem_append_right _ (List.mem_of_getElem? (i := 129) rfl))))))
theorem sg_cw192 : Cond.code (sg_my 192) (sg_mc 192) (sg_ml 192) (sg_mr 192) ∈ lw_tbl := List.mem_append_right _ (List.mem_append_right _ (List.mem_append_right _ (List.mem_append_right _ (List.mem_append_right _ (List.mem_append_right _ (List.mem_of_getElem? (i := 134) rfl))))))
theorem sg_cw193 : Cond.code (sg_my 193) (sg_mc 193) (sg_ml 193) (sg_mr 193) ∈ lw_tbl := List.mem_append_right _ (List.mem_append_right _ (List.mem_append_right _ (List.mem_append_right _ (List.mem_append_right _ (List.mem_append_right _ (List.mem_of_getElem? (i := 138) rfl))))))
theorem sg_cw194 : Cond.code (sg_my 194) (sg_mc 194) (sg_ml 194) (sg_mr 194) ∈ lw_tbl := List.mem_append_right _ (List.mem_append_right _ (List.mem_append_right _ (List.mem_append_right _ (List.mem_append_right _ (List.mem_append_right _ (List.mem_of_getElem? (i := 142) rfl))))))
theorem sg_cw195 : Cond.code (sg_my 195) (sg_mc 195) (sg_ml 195) (sg_mr 195) ∈ lw_tbl := List.mem_append_right _ (List.mem_append_right _ (List.mem_append_right _ (List.mem_append_right _ (List.mem_append_right _ (List.mem_append_right _ (List.mem_of_getElem? (i := 146) rfl))))))
theorem sg_cw196 : Cond.code (sg_my 196) (sg_mc 196) (sg_ml 196) (sg_mr 196) ∈ lw_tbl := List.mem_append_right _ (List.mem_append_right _ (List.mem_append_right _ (List.mem_append_right _ (List.mem_append_left _ (List.mem_of_getElem? (i := 23) rfl)))))
theorem sg_cw197 : Cond.code (sg_my 197) (sg_mc 197) (sg_ml 197) (sg_mr 197) ∈ lw_tbl := List.mem_append_right _ (List.mem_append_right _ (List.mem_append_right _ (List.mem_append_left _ (List.mem_of_getElem? (i := 122) rfl))))
theorem sg_cw198 : Cond.code (sg_my 198) (sg_mc 198) (sg_ml 198) (sg_mr 198) ∈ lw_tbl := List.mem_append_right _ (List.mem_append_right _ (List.mem_append_left _ (List.mem_of_getElem? (i := 183) rfl)))
theorem sg_cw199 : Cond.code (sg_my 199) (sg_mc 199) (sg_ml 199) (sg_mr 199) ∈ lw_tbl := List.mem_append_right _ (List.mem_append_right _ (List.mem_append_left _ (List.mem_of_getElem? (i := 172) rfl)))
theorem sg_cw200 : Cond.code (sg_my 200) (sg_mc 200) (sg_ml 200) (sg_mr 200) ∈ lw_tbl := List.mem_append_right _ (List.mem_append_right _ (List.mem_append_right _ (List.mem_append_right _ (List.mem_append_left _ (List.mem_of_getElem? (i := 96) rfl)))))
theorem sg_cw201 : Cond.code (sg_my 201) (sg_mc 201) (sg_ml 201) (sg_mr 201) ∈ lw_tbl := List.mem_append_right _ (List.mem_append_left _ (List.mem_of_getElem? (i := 43) rfl))
theorem sg_cw202 : Cond.code (sg_my 202) (sg_mc 202) (sg_ml 202) (sg_mr 202) ∈ lw_tbl := List.mem_append_right _ (List.mem_append_right _ (List.mem_append_right _ (List.mem_append_right _ (List.mem_append_left _ (List.mem_of_getElem? (i := 93) rfl)))))
def sg_kck (o : Nat) (e : Nat × Nat × Nat × Nat) : Bool := match e.2.1 with
  | 1 => sg_ck e.2.2.2 (.methodLink (sg_cn o) e.1 (sg_my e.2.2.1)) && sg_sb e.2.2.1 && decide (e.2.2.1 < 203)
  | 2 => sg_ck e.2.2.2 (.methodLink (sg_cn o) e.1 (sg_my e.2.2.1)) && !(sg_sb e.2.2.1) && sg_ck (sg_pt e.2.2.1).2.2.1 (.selects (sg_my e.2.2.1).cls (sg_my e.2.2.1) (sg_my e.2.2.1)) && decide (e.2.2.1 < 203) && decide (sg_mo e.2.2.1 < 11)
  | 3 => sg_ck e.2.2.2 (.methodLink (sg_cn o) e.1 (sg_my e.2.2.1)) && !(sg_sb e.2.2.1) && decide ((sg_my e.2.2.1).name = "<init>") && decide (sg_mr e.2.2.1 = none) && decide (e.2.2.1 < 203)
  | 4 => decide (Cond.methodLinkNest (sg_cn o) e.1 (sg_my e.2.2.1) RX9 ∈ sg_nw) && sg_sb e.2.2.1 && decide (e.2.2.1 < 203)
  | 5 => decide (Cond.methodLinkNest (sg_cn o) e.1 (sg_my e.2.2.1) RX9 ∈ sg_nw) && !(sg_sb e.2.2.1) && decide ((sg_my e.2.2.1).name = "<init>") && decide (sg_mr e.2.2.1 = none) && decide (e.2.2.1 < 203)
  | 6 => sg_ck e.2.2.2 (.methodLink (sg_cn o) e.1 objectInit)
  | 7 => sg_ck e.2.2.2 (.methodLink (sg_cn o) e.1 arraycopyName)
  | 8 => sg_ck e.2.2.2 (.methodLink (sg_cn o) e.1 ⟨"[I", "clone", "()Ljava/lang/Object;"⟩)
  | _ => false
theorem sg_kw0 : (sg_KT.getD 0 []).all (sg_kck 0) = true := by decide +kernel
theorem sg_kw1 : (sg_KT.getD 1 []).all (sg_kck 1) = true := by decide +kernel
theorem sg_kw2 : (sg_KT.getD 2 []).all (sg_kck 2) = true := by decide +kernel
theorem sg_kw3 : (sg_KT.getD 3 []).all (sg_kck 3) = true := by decide +kernel
theorem sg_kw4 : (sg_KT.getD 4 []).all (sg_kck 4) = true := by decide +kernel
theorem sg_kw5 : (sg_KT.getD 5 []).all (sg_kck 5) = true := by decide +kernel
theorem sg_kw6 : (sg_KT.getD 6 []).all (sg_kck 6) = true := by decide +kernel
theorem sg_kw7 : (sg_KT.getD 7 []).all (sg_kck 7) = true := by decide +kernel
theorem sg_kw8 : (sg_KT.getD 8 []).all (sg_kck 8) = true := by decide +kernel
theorem sg_kw9 : (sg_KT.getD 9 []).all (sg_kck 9) = true := by decide +kernel
theorem sg_kw10 : (sg_KT.getD 10 []).all (sg_kck 10) = true := by decide +kernel
theorem sg_kw11 : (sg_KT.getD 11 []).all (sg_kck 11) = true := by decide +kernel
theorem sg_kw14 : (sg_KT.getD 14 []).all (sg_kck 14) = true := by decide +kernel
theorem sg_kw : ∀ o, (sg_KT.getD o []).all (sg_kck o) = true
  | 0 => sg_kw0
  | 1 => sg_kw1
  | 2 => sg_kw2
  | 3 => sg_kw3
  | 4 => sg_kw4
  | 5 => sg_kw5
  | 6 => sg_kw6
  | 7 => sg_kw7
  | 8 => sg_kw8
  | 9 => sg_kw9
  | 10 => sg_kw10
  | 11 => sg_kw11
  | 12 => rfl
  | 13 => rfl
  | 14 => sg_kw14
  | _ + 15 => rfl
theorem sg_kl_ok {o i k y p : Nat} (h : sg_kl o i = some (k, y, p)) : sg_kck o (i, k, y, p) = true := by
  unfold sg_kl at h
  cases hf : (sg_KT.getD o []).find? (fun e => e.1 == i) with
  | none => rw [hf] at h; cases h
  | some e =>
    rw [hf] at h
    have hm := List.mem_of_find?_eq_some hf
    have he := List.find?_some hf
    have hk := List.all_eq_true.mp (sg_kw o) e hm
    obtain ⟨e1, e2, e3, e4⟩ := e
    cases h
    simp only [beq_iff_eq] at he
    subst he
    exact hk
theorem sg_objw : sg_ck 87 (.instanceMethod objectInit) = true ∧ sg_ck 88 (.code objectInit ⟨#[0xb1]⟩ 1 none) = true := by decide +kernel
theorem sg_acw : sg_ck 602 (.native arraycopyName) = true ∧ sg_ck 601 (.static arraycopyName) = true ∧ sg_ck 78 (.initialized "java/lang/System") = true := by decide +kernel
theorem sg_clw : sg_ck 98 (.sameMethod "[I" "java/lang/Object" "clone" "()Ljava/lang/Object;") = true ∧ sg_ck 99 (.native ⟨"java/lang/Object", "clone", "()Ljava/lang/Object;"⟩) = true ∧ sg_ck 100 (.instanceMethod ⟨"java/lang/Object", "clone", "()Ljava/lang/Object;"⟩) = true ∧ sg_ck 101 (.selects "[I" ⟨"[I", "clone", "()Ljava/lang/Object;"⟩ ⟨"java/lang/Object", "clone", "()Ljava/lang/Object;"⟩) = true ∧ sg_ck 103 (.classLink (sg_cn 1) 22 "[I") = true := by decide +kernel
theorem sg_arw : sg_ck 149 (.arrayClass .int) = true ∧ sg_ck 150 (.arrayClass .boolean) = true := by decide +kernel
end
section
/-! what holds while a method runs -/
def sg_Cx (p : Program) (R : Room) (s : State) (m : MethodId) (args : Array Value) (meth : Method) (c : Code) (M : Nat) (A : Nat → Prop) (D : va_G) (q : sg_Ci) (X : sg_X) (ra : Nat → Nat) : Prop :=
  p.tables.exec = Jvm.exec ∧ c.code = sg_mc M ∧ c.maxLocals = sg_ml M ∧ meth.sig.returnType = sg_mr M ∧ s.vm.findClass (sg_cn (sg_mo M)) = some m.cls ∧ (∀ w ∈ sg_gw, w.before args s = true) ∧ (∀ w ∈ sg_nw, va_Nw w s) ∧ va_K D vwCl [(q.1, .int), (q.2.1, .boolean), (q.2.2, .object RX2)] s ∧ sg_RO X ra A s s.heap ∧ (∀ a, s.heap.size ≤ a → A a) ∧ meth.locks = false ∧ meth.name = (sg_my M).name ∧ sg_fr M ≤ R.frames ∧ sg_lo M ≤ R.locals
def sg_In (s : State) (A : Nat → Prop) (D : va_G) (q : sg_Ci) (n0 : Nat) (ad0 ad : Nat → Nat) (z : sg_Z) (σ : sg_S) (H : Heap) (locs : List Loc) : Prop :=
  va_P D vwCl (sg_wd q ad z.1 z.2.2.2 σ) H ∧ va_D A (sg_wd q ad z.1 z.2.2.2 σ) ∧ va_S A s.heap H locs ∧ z.1 ≤ 1000 ∧ sg_LI z.1 z.2.2.2 ∧ n0 ≤ z.1 ∧ ∀ k, k < n0 → ad k = ad0 k
abbrev sg_ws (n : Nat) (st : List Value) : Prop := st.all (sg_wv n) = true
abbrev sg_wl (n : Nat) (ls : sg_L) : Prop := ls.all (fun o => o.all (sg_wv n)) = true
def sg_OK (p : Program) (l : Launch) (e : Env) (R : Room) (s : State) (m : MethodId) (args : Array Value) (below : List Frame) (meth : Method) (c : Code) (M : Nat) (A : Nat → Prop) (D : va_G) (q : sg_Ci) (ra : Nat → Nat) (n0 : Nat) (ad0 : Nat → Nat) (Q : State → Prop) (pc : Nat) (ls : sg_L) (st : List Value) (z : sg_Z) (σ : sg_S) : Prop :=
  ∀ (H : Heap) (locs : List Loc) (ad : Nat → Nat) (arr : Array Slot), sg_In s A D q n0 ad0 ad z σ H locs → sg_LH ad ra arr (sg_ml M) ls → sg_wl z.1 ls → sg_ws z.1 st → W p l e R s m args below meth c H locs z.2.1 z.2.2.1 Q (F0 m pc arr (st.map (sg_vm ad ra)))
theorem sg_wl_get {n : Nat} {ls : sg_L} {k : Nat} {v : Value} (h : sg_wl n ls) (hk : ls[k]? = some (some v)) : sg_wv n v = true := by
  have := List.all_eq_true.mp h _ (List.mem_of_getElem? hk)
  simpa using this
theorem sg_wl_kill {n : Nat} {ls : sg_L} {k : Nat} (h : sg_wl n ls) : sg_wl n (sg_kill ls k) := by
  apply List.all_eq_true.mpr
  intro o ho
  cases o with
  | none => rfl
  | some w =>
    obtain ⟨i, hi⟩ := List.getElem?_of_mem ho
    exact List.all_eq_true.mp h _ (List.mem_of_getElem? (sg_kill_get hi).1)
theorem sg_wl_set {n : Nat} {ls : sg_L} {k : Nat} {o : Option Value} (h : sg_wl n ls) (ho : o.all (sg_wv n) = true) : sg_wl n (ls.set k o) := by
  apply List.all_eq_true.mpr
  intro x hx
  rcases List.mem_or_eq_of_mem_set hx with h1 | h1
  · exact List.all_eq_true.mp h x h1
  · rw [h1]; exact ho
theorem sg_wl_s1 {n : Nat} {ls : sg_L} {k : Nat} {v : Value} (h : sg_wl n ls) (hv : sg_wv n v = true) : sg_wl n (sg_s1 ls k v) := sg_wl_set (sg_wl_kill h) hv
theorem sg_wl_s2 {n : Nat} {ls : sg_L} {k : Nat} {v : Value} (h : sg_wl n ls) (hv : sg_wv n v = true) : sg_wl n (sg_s2 ls k v) := sg_wl_set (sg_wl_set (sg_wl_kill h) rfl) hv
theorem sg_wv_le {n n' : Nat} (hn : n ≤ n') {v : Value} (h : sg_wv n v = true) : sg_wv n' v = true := by
  cases v with
  | ref k =>
    simp only [sg_wv, Bool.or_eq_true, decide_eq_true_eq] at h ⊢
    rcases h with h | h
    · exact Or.inl (Nat.lt_of_lt_of_le h hn)
    · exact Or.inr h
  | double b => exact h
  | _ => rfl
theorem sg_ws_le {n n' : Nat} (hn : n ≤ n') {st : List Value} (h : sg_ws n st) : sg_ws n' st := List.all_eq_true.mpr fun v hv => sg_wv_le hn (List.all_eq_true.mp h v hv)
theorem sg_wl_le {n n' : Nat} (hn : n ≤ n') {ls : sg_L} (h : sg_wl n ls) : sg_wl n' ls := List.all_eq_true.mpr fun o ho => by
  have := List.all_eq_true.mp h o ho
  cases o with
  | none => rfl
  | some v => exact sg_wv_le hn this
/-- values keep their meaning when a cell is made -/
theorem sg_vm_ad {n : Nat} {ad ad' ra : Nat → Nat} (hn : n ≤ 1000) (ha : ∀ j, j < n → ad' j = ad j) {v : Value} (h : sg_wv n v = true) : sg_vm ad' ra v = sg_vm ad ra v := by
  cases v with
  | ref k =>
    simp only [sg_wv, Bool.or_eq_true, decide_eq_true_eq] at h
    simp only [sg_vm]
    rcases h with h | h
    · have hk : k < 1000 := Nat.lt_of_lt_of_le h hn
      rw [if_pos hk, if_pos hk, ha k h]
    · have hk : ¬ k < 1000 := Nat.not_lt.mpr h
      rw [if_neg hk, if_neg hk]
  | _ => rfl
theorem sg_map_ad {n : Nat} {ad ad' ra : Nat → Nat} (hn : n ≤ 1000) (ha : ∀ j, j < n → ad' j = ad j) {st : List Value} (h : sg_ws n st) : st.map (sg_vm ad' ra) = st.map (sg_vm ad ra) := List.map_congr_left fun v hv => sg_vm_ad hn ha (List.all_eq_true.mp h v hv)
theorem sg_LH_ad {n : Nat} {ad ad' ra : Nat → Nat} (hn : n ≤ 1000) (ha : ∀ j, j < n → ad' j = ad j) {arr : Array Slot} {nL : Nat} {ls : sg_L} (hw : sg_wl n ls) (h : sg_LH ad ra arr nL ls) : sg_LH ad' ra arr nL ls := ⟨h.1, h.2.1, fun i v hi => by rw [sg_vm_ad hn ha (sg_wl_get hw hi)]; exact h.2.2 i v hi⟩
theorem sg_vm_ref {n : Nat} {ad ra : Nat → Nat} {k : Nat} (hn : n ≤ 1000) (h : k < n) : sg_vm ad ra (.ref k) = .ref (ad k) := by simp only [sg_vm]; rw [if_pos (Nat.lt_of_lt_of_le h hn)]
/-! entries of the four kinds -/
theorem sg_et0 {q : sg_Ci} {ad : Nat → Nat} {lk : Nat → Nat → Bool} {σ : sg_S} {k : Nat} (h : sg_kd k = 0) : sg_et q ad lk σ k = .inr (sg_ag k, sg_fs ad lk σ k) := by unfold sg_et; rw [if_pos h]
theorem sg_et1 {q : sg_Ci} {ad : Nat → Nat} {lk : Nat → Nat → Bool} {σ : sg_S} {k : Nat} (h : sg_kd k = 1) : sg_et q ad lk σ k = .inl (q.1, sg_ag k, .inl (σ k)) := by unfold sg_et; rw [if_neg (by omega), if_pos h]
theorem sg_et2 {q : sg_Ci} {ad : Nat → Nat} {lk : Nat → Nat → Bool} {σ : sg_S} {k : Nat} (h : sg_kd k = 2) : sg_et q ad lk σ k = .inl (q.2.1, sg_ag k, .inl (σ k)) := by unfold sg_et; rw [if_neg (by omega), if_neg (by omega), if_pos h]
theorem sg_et3 {q : sg_Ci} {ad : Nat → Nat} {lk : Nat → Nat → Bool} {σ : sg_S} {k : Nat} (h : sg_kd k = 3) : sg_et q ad lk σ k = .inl (q.2.2, sg_ag k, .inr (.inr (.inr (.inr (sg_ra ad lk k))))) := by unfold sg_et; rw [if_neg (by omega), if_neg (by omega), if_neg (by omega)]
theorem sg_et_row {q : sg_Ci} {ad : Nat → Nat} {lk lk' : Nat → Nat → Bool} {σ σ' : sg_S} {k : Nat} (h : σ' k = σ k) (hl : lk' k = lk k) : sg_et q ad lk' σ' k = sg_et q ad lk σ k := by
  have e1 : sg_fs ad lk' σ' k = sg_fs ad lk σ k := by
    unfold sg_fs
    apply List.map_congr_left
    intro j _
    simp only [sg_fv, h, hl]
  have e2 : sg_ra ad lk' k = sg_ra ad lk k := by
    unfold sg_ra
    rw [hl]
  simp only [sg_et, e1, e2, h]
theorem sg_fs_len {ad : Nat → Nat} {lk : Nat → Nat → Bool} {σ : sg_S} {k : Nat} : (sg_fs ad lk σ k).length = sg_nf (sg_ag k) := by simp [sg_fs]
theorem sg_fs_get {ad : Nat → Nat} {lk : Nat → Nat → Bool} {σ : sg_S} {k j : Nat} (h : j < sg_nf (sg_ag k)) : (sg_fs ad lk σ k)[j]? = some (sg_fv ad lk σ k j) := by simp [sg_fs, h]
theorem sg_fs_set {ad : Nat → Nat} {lk lk' : Nat → Nat → Bool} {σ σ' : sg_S} {k j : Nat} {v : Value} (h : j < sg_nf (sg_ag k)) (hv : v = sg_fv ad lk' σ' k j) (ho : ∀ i, i ≠ j → σ' k i = σ k i ∧ lk' k i = lk k i) : (sg_fs ad lk σ k).set j v = sg_fs ad lk' σ' k := by
  apply List.ext_getElem?
  intro i
  by_cases hi : i < sg_nf (sg_ag k)
  · by_cases e : i = j
    · subst e
      rw [List.getElem?_set_self (by rw [sg_fs_len]; exact hi), sg_fs_get hi, hv]
    · rw [List.getElem?_set_ne (Ne.symm e), sg_fs_get hi, sg_fs_get hi]
      simp only [sg_fv, (ho i e).1, (ho i e).2]
  · rw [List.getElem?_eq_none (by rw [List.length_set, sg_fs_len]; omega), List.getElem?_eq_none (by rw [sg_fs_len]; omega)]
theorem sg_up_row {σ : sg_S} {k j i : Nat} {v : Int32} (h : i ≠ k) : sg_up σ k j v i = σ i := va_up_ne _ _ h
theorem sg_up_self {σ : sg_S} {k j : Nat} {v : Int32} : sg_up σ k j v k = va_up (σ k) j v := va_up_self _ _ _
theorem sg_upd (f : Nat → Int32) (k : Nat) (v : Int32) : upd f k v = va_up f k v := rfl
theorem sg_in_vp {i : Int32} {n : Nat} (h : sg_in i n) : vp_in i n := by
  rintro (h1 | h1)
  · have : i.toInt < 0 := by simpa using Int32.lt_iff_toInt_lt.mp h1
    omega
  · have : (i.toNatClampNeg : Int) = i.toInt := by
      show ((i.toInt.toNat : Nat) : Int) = i.toInt
      omega
    omega
theorem sg_nn {i : Int32} (h : 0 ≤ i.toInt) : ¬ i < 0 := fun h1 => by
  have : i.toInt < 0 := by simpa using Int32.lt_iff_toInt_lt.mp h1
  omega
theorem sg_cl {i : Int32} (h : 0 ≤ i.toInt) : (i.toNatClampNeg : Int) = i.toInt := by
  show ((i.toInt.toNat : Nat) : Int) = i.toInt
  omega
end
section
section SG
variable {p : Program} {l : Launch} {e : Env} {R : Room} {s : State} {m : MethodId} {args : Array Value} {below : List Frame} {meth : Method} {c : Code} {M : Nat} {A : Nat → Prop} {D : va_G} {q : sg_Ci} {X : sg_X} {ra : Nat → Nat} {n0 : Nat} {ad0 : Nat → Nat} {Q : State → Prop}
variable {pc pc' : Nat} {ls ls' : sg_L} {st st' : List Value} {z z' : sg_Z} {σ σ' : sg_S}
theorem sg_p_iconst (C : sg_Cx p R s m args meth c M A D q X ra) {k : Int} (hd : decode (sg_mc M) pc = .ok (.iconst k, 1)) (h : sg_st X M (.iconst k) pc ls st z σ = some (.inl (pc', ls', st', z', σ'))) (K : sg_OK p l e R s m args below meth c M A D q ra n0 ad0 Q pc' ls' st' z' σ') : sg_OK p l e R s m args below meth c M A D q ra n0 ad0 Q pc ls st z σ := by
  obtain ⟨hx, hb, hml, hr, hown, hts, hnw, hK, hRO, hA, hlk, hmn, hfr, hlo⟩ := C
  simp only [sg_st, sg_nx, Option.some.injEq, Sum.inl.injEq, Prod.mk.injEq] at h
  obtain ⟨rfl, rfl, rfl, rfl, rfl⟩ := h
  intro H locs ad arr hI hL hw hs
  exact lv_iconst hx hb hd rfl (K H locs ad arr hI hL hw (by simpa [sg_ws, sg_wv] using hs))
theorem sg_p_bipush (C : sg_Cx p R s m args meth c M A D q X ra) {k : Int} (hd : decode (sg_mc M) pc = .ok (.bipush k, 2)) (h : sg_st X M (.bipush k) pc ls st z σ = some (.inl (pc', ls', st', z', σ'))) (K : sg_OK p l e R s m args below meth c M A D q ra n0 ad0 Q pc' ls' st' z' σ') : sg_OK p l e R s m args below meth c M A D q ra n0 ad0 Q pc ls st z σ := by
  obtain ⟨hx, hb, hml, hr, hown, hts, hnw, hK, hRO, hA, hlk, hmn, hfr, hlo⟩ := C
  simp only [sg_st, sg_nx, Option.some.injEq, Sum.inl.injEq, Prod.mk.injEq] at h
  obtain ⟨rfl, rfl, rfl, rfl, rfl⟩ := h
  intro H locs ad arr hI hL hw hs
  exact lv_bipush hx hb hd rfl (K H locs ad arr hI hL hw (by simpa [sg_ws, sg_wv] using hs))
theorem sg_p_sipush (C : sg_Cx p R s m args meth c M A D q X ra) {k : Int} (hd : decode (sg_mc M) pc = .ok (.sipush k, 3)) (h : sg_st X M (.sipush k) pc ls st z σ = some (.inl (pc', ls', st', z', σ'))) (K : sg_OK p l e R s m args below meth c M A D q ra n0 ad0 Q pc' ls' st' z' σ') : sg_OK p l e R s m args below meth c M A D q ra n0 ad0 Q pc ls st z σ := by
  obtain ⟨hx, hb, hml, hr, hown, hts, hnw, hK, hRO, hA, hlk, hmn, hfr, hlo⟩ := C
  simp only [sg_st, sg_nx, Option.some.injEq, Sum.inl.injEq, Prod.mk.injEq] at h
  obtain ⟨rfl, rfl, rfl, rfl, rfl⟩ := h
  intro H locs ad arr hI hL hw hs
  exact lv_sipush hx hb hd rfl (K H locs ad arr hI hL hw (by simpa [sg_ws, sg_wv] using hs))
theorem sg_p_lconst (C : sg_Cx p R s m args meth c M A D q X ra) {k : Fin 2} (hd : decode (sg_mc M) pc = .ok (.lconst k, 1)) (h : sg_st X M (.lconst k) pc ls st z σ = some (.inl (pc', ls', st', z', σ'))) (K : sg_OK p l e R s m args below meth c M A D q ra n0 ad0 Q pc' ls' st' z' σ') : sg_OK p l e R s m args below meth c M A D q ra n0 ad0 Q pc ls st z σ := by
  obtain ⟨hx, hb, hml, hr, hown, hts, hnw, hK, hRO, hA, hlk, hmn, hfr, hlo⟩ := C
  simp only [sg_st, sg_nx, Option.some.injEq, Sum.inl.injEq, Prod.mk.injEq] at h
  obtain ⟨rfl, rfl, rfl, rfl, rfl⟩ := h
  intro H locs ad arr hI hL hw hs
  exact lv_lconst hx hb hd rfl (K H locs ad arr hI hL hw (by simpa [sg_ws, sg_wv] using hs))
theorem sg_p_ldc (C : sg_Cx p R s m args meth c M A D q X ra) {k : Nat} (hd : decode (sg_mc M) pc = .ok (.ldc k, 2)) (h : sg_st X M (.ldc k) pc ls st z σ = some (.inl (pc', ls', st', z', σ'))) (K : sg_OK p l e R s m args below meth c M A D q ra n0 ad0 Q pc' ls' st' z' σ') : sg_OK p l e R s m args below meth c M A D q ra n0 ad0 Q pc ls st z σ := by
  obtain ⟨hx, hb, hml, hr, hown, hts, hnw, hK, hRO, hA, hlk, hmn, hfr, hlo⟩ := C
  simp only [sg_st] at h
  cases hl : sg_il (sg_mo M) k with
  | none => rw [hl] at h; cases h
  | some v =>
    obtain ⟨v, pl⟩ := v
    rw [hl] at h
    simp only [sg_nx, Option.some.injEq, Sum.inl.injEq, Prod.mk.injEq] at h
    obtain ⟨rfl, rfl, rfl, rfl, rfl⟩ := h
    intro H locs ad arr hI hL hw hs
    exact lv_ldc hx hb hown (hts _ (sg_il_ok (sg_mo_lt M) hl)) hd (K H locs ad arr hI hL hw (by simpa [sg_ws, sg_wv] using hs))
theorem sg_p_ldc_w (C : sg_Cx p R s m args meth c M A D q X ra) {k : Nat} (hd : decode (sg_mc M) pc = .ok (.ldc_w k, 3)) (h : sg_st X M (.ldc_w k) pc ls st z σ = some (.inl (pc', ls', st', z', σ'))) (K : sg_OK p l e R s m args below meth c M A D q ra n0 ad0 Q pc' ls' st' z' σ') : sg_OK p l e R s m args below meth c M A D q ra n0 ad0 Q pc ls st z σ := by
  obtain ⟨hx, hb, hml, hr, hown, hts, hnw, hK, hRO, hA, hlk, hmn, hfr, hlo⟩ := C
  simp only [sg_st] at h
  cases hl : sg_il (sg_mo M) k with
  | none => rw [hl] at h; cases h
  | some v =>
    obtain ⟨v, pl⟩ := v
    rw [hl] at h
    simp only [sg_nx, Option.some.injEq, Sum.inl.injEq, Prod.mk.injEq] at h
    obtain ⟨rfl, rfl, rfl, rfl, rfl⟩ := h
    intro H locs ad arr hI hL hw hs
    exact lv_ldcw hx hb hown (hts _ (sg_il_ok (sg_mo_lt M) hl)) hd (K H locs ad arr hI hL hw (by simpa [sg_ws, sg_wv] using hs))
theorem sg_p_ldc2_w (C : sg_Cx p R s m args meth c M A D q X ra) {k : Nat} (hd : decode (sg_mc M) pc = .ok (.ldc2_w k, 3)) (h : sg_st X M (.ldc2_w k) pc ls st z σ = some (.inl (pc', ls', st', z', σ'))) (K : sg_OK p l e R s m args below meth c M A D q ra n0 ad0 Q pc' ls' st' z' σ') : sg_OK p l e R s m args below meth c M A D q ra n0 ad0 Q pc ls st z σ := by
  obtain ⟨hx, hb, hml, hr, hown, hts, hnw, hK, hRO, hA, hlk, hmn, hfr, hlo⟩ := C
  simp only [sg_st] at h
  cases hl : sg_jl (sg_mo M) k with
  | none => rw [hl] at h; cases h
  | some v =>
    obtain ⟨v, pl⟩ := v
    rw [hl] at h
    simp only [sg_nx, Option.some.injEq, Sum.inl.injEq, Prod.mk.injEq] at h
    obtain ⟨rfl, rfl, rfl, rfl, rfl⟩ := h
    intro H locs ad arr hI hL hw hs
    exact lv_ldc2 hx hb hown (hts _ (sg_jl_ok (sg_mo_lt M) hl)) hd (K H locs ad arr hI hL hw (by simpa [sg_ws, sg_wv] using hs))
theorem sg_p_iload (C : sg_Cx p R s m args meth c M A D q X ra) {k : Nat} (hd : decode (sg_mc M) pc = .ok (.iload k, 2)) (h : sg_st X M (.iload k) pc ls st z σ = some (.inl (pc', ls', st', z', σ'))) (K : sg_OK p l e R s m args below meth c M A D q ra n0 ad0 Q pc' ls' st' z' σ') : sg_OK p l e R s m args below meth c M A D q ra n0 ad0 Q pc ls st z σ := by
  obtain ⟨hx, hb, hml, hr, hown, hts, hnw, hK, hRO, hA, hlk, hmn, hfr, hlo⟩ := C
  simp only [sg_st, sg_ldi] at h
  split at h
  · rename_i x hv
    simp only [sg_nx, Option.some.injEq, Sum.inl.injEq, Prod.mk.injEq] at h
    obtain ⟨rfl, rfl, rfl, rfl, rfl⟩ := h
    intro H locs ad arr hI hL hw hs
    exact lv_iload hx hb hd (hL.2.2 _ _ hv) (K H locs ad arr hI hL hw (by simpa [sg_ws, sg_wv] using hs))
  · cases h
theorem sg_p_iload_n (C : sg_Cx p R s m args meth c M A D q X ra) {k : Fin 4} (hd : decode (sg_mc M) pc = .ok (.iload_n k, 1)) (h : sg_st X M (.iload_n k) pc ls st z σ = some (.inl (pc', ls', st', z', σ'))) (K : sg_OK p l e R s m args below meth c M A D q ra n0 ad0 Q pc' ls' st' z' σ') : sg_OK p l e R s m args below meth c M A D q ra n0 ad0 Q pc ls st z σ := by
  obtain ⟨hx, hb, hml, hr, hown, hts, hnw, hK, hRO, hA, hlk, hmn, hfr, hlo⟩ := C
  simp only [sg_st, sg_ldi] at h
  split at h
  · rename_i x hv
    simp only [sg_nx, Option.some.injEq, Sum.inl.injEq, Prod.mk.injEq] at h
    obtain ⟨rfl, rfl, rfl, rfl, rfl⟩ := h
    intro H locs ad arr hI hL hw hs
    exact lv_iload_n hx hb hd rfl (hL.2.2 _ _ hv) (K H locs ad arr hI hL hw (by simpa [sg_ws, sg_wv] using hs))
  · cases h
theorem sg_p_lload (C : sg_Cx p R s m args meth c M A D q X ra) {k : Nat} (hd : decode (sg_mc M) pc = .ok (.lload k, 2)) (h : sg_st X M (.lload k) pc ls st z σ = some (.inl (pc', ls', st', z', σ'))) (K : sg_OK p l e R s m args below meth c M A D q ra n0 ad0 Q pc' ls' st' z' σ') : sg_OK p l e R s m args below meth c M A D q ra n0 ad0 Q pc ls st z σ := by
  obtain ⟨hx, hb, hml, hr, hown, hts, hnw, hK, hRO, hA, hlk, hmn, hfr, hlo⟩ := C
  simp only [sg_st, sg_ldl] at h
  split at h
  · rename_i x hv
    simp only [sg_nx, Option.some.injEq, Sum.inl.injEq, Prod.mk.injEq] at h
    obtain ⟨rfl, rfl, rfl, rfl, rfl⟩ := h
    intro H locs ad arr hI hL hw hs
    exact lv_lload hx hb hd (hL.2.2 _ _ hv) (K H locs ad arr hI hL hw (by simpa [sg_ws, sg_wv] using hs))
  · cases h
theorem sg_p_lload_n (C : sg_Cx p R s m args meth c M A D q X ra) {k : Fin 4} (hd : decode (sg_mc M) pc = .ok (.lload_n k, 1)) (h : sg_st X M (.lload_n k) pc ls st z σ = some (.inl (pc', ls', st', z', σ'))) (K : sg_OK p l e R s m args below meth c M A D q ra n0 ad0 Q pc' ls' st' z' σ') : sg_OK p l e R s m args below meth c M A D q ra n0 ad0 Q pc ls st z σ := by
  obtain ⟨hx, hb, hml, hr, hown, hts, hnw, hK, hRO, hA, hlk, hmn, hfr, hlo⟩ := C
  simp only [sg_st, sg_ldl] at h
  split at h
  · rename_i x hv
    simp only [sg_nx, Option.some.injEq, Sum.inl.injEq, Prod.mk.injEq] at h
    obtain ⟨rfl, rfl, rfl, rfl, rfl⟩ := h
    intro H locs ad arr hI hL hw hs
    exact lv_lload_n hx hb hd rfl (hL.2.2 _ _ hv) (K H locs ad arr hI hL hw (by simpa [sg_ws, sg_wv] using hs))
  · cases h
theorem sg_p_aload (C : sg_Cx p R s m args meth c M A D q X ra) {k : Nat} (hd : decode (sg_mc M) pc = .ok (.aload k, 2)) (h : sg_st X M (.aload k) pc ls st z σ = some (.inl (pc', ls', st', z', σ'))) (K : sg_OK p l e R s m args below meth c M A D q ra n0 ad0 Q pc' ls' st' z' σ') : sg_OK p l e R s m args below meth c M A D q ra n0 ad0 Q pc ls st z σ := by
  obtain ⟨hx, hb, hml, hr, hown, hts, hnw, hK, hRO, hA, hlk, hmn, hfr, hlo⟩ := C
  simp only [sg_st, sg_lda] at h
  split at h
  · rename_i x hv
    simp only [sg_nx, Option.some.injEq, Sum.inl.injEq, Prod.mk.injEq] at h
    obtain ⟨rfl, rfl, rfl, rfl, rfl⟩ := h
    intro H locs ad arr hI hL hw hs
    exact lv_aload hx hb hd (hL.2.2 _ _ hv) (K H locs ad arr hI hL hw (by simp only [sg_ws, List.all_cons, Bool.and_eq_true]; exact ⟨sg_wl_get hw hv, hs⟩))
  · cases h
theorem sg_p_aload_n (C : sg_Cx p R s m args meth c M A D q X ra) {k : Fin 4} (hd : decode (sg_mc M) pc = .ok (.aload_n k, 1)) (h : sg_st X M (.aload_n k) pc ls st z σ = some (.inl (pc', ls', st', z', σ'))) (K : sg_OK p l e R s m args below meth c M A D q ra n0 ad0 Q pc' ls' st' z' σ') : sg_OK p l e R s m args below meth c M A D q ra n0 ad0 Q pc ls st z σ := by
  obtain ⟨hx, hb, hml, hr, hown, hts, hnw, hK, hRO, hA, hlk, hmn, hfr, hlo⟩ := C
  simp only [sg_st, sg_lda] at h
  split at h
  · rename_i x hv
    simp only [sg_nx, Option.some.injEq, Sum.inl.injEq, Prod.mk.injEq] at h
    obtain ⟨rfl, rfl, rfl, rfl, rfl⟩ := h
    intro H locs ad arr hI hL hw hs
    exact lv_aload_n hx hb hd rfl (hL.2.2 _ _ hv) (K H locs ad arr hI hL hw (by simp only [sg_ws, List.all_cons, Bool.and_eq_true]; exact ⟨sg_wl_get hw hv, hs⟩))
  · cases h
theorem sg_p_istore (C : sg_Cx p R s m args meth c M A D q X ra) {k : Nat} (hd : decode (sg_mc M) pc = .ok (.istore k, 2)) (h : sg_st X M (.istore k) pc ls st z σ = some (.inl (pc', ls', st', z', σ'))) (K : sg_OK p l e R s m args below meth c M A D q ra n0 ad0 Q pc' ls' st' z' σ') : sg_OK p l e R s m args below meth c M A D q ra n0 ad0 Q pc ls st z σ := by
  obtain ⟨hx, hb, hml, hr, hown, hts, hnw, hK, hRO, hA, hlk, hmn, hfr, hlo⟩ := C
  simp only [sg_st, sg_sti] at h
  split at h
  · rename_i x r
    split at h
    · rename_i hk
      simp only [sg_nx, Option.some.injEq, Sum.inl.injEq, Prod.mk.injEq] at h
      obtain ⟨rfl, rfl, rfl, rfl, rfl⟩ := h
      intro H locs ad arr hI hL hw hs
      simp only [sg_ws, List.all_cons, Bool.and_eq_true] at hs
      exact lv_istore (lv' := _) hx hb hd hL.has hk rfl (fun arr' hl' => K H locs ad arr' hI (sg_LH.s1 (v := .int x) hl') (sg_wl_s1 hw rfl) hs.2)
    · cases h
  · cases h
theorem sg_p_istore_n (C : sg_Cx p R s m args meth c M A D q X ra) {k : Fin 4} (hd : decode (sg_mc M) pc = .ok (.istore_n k, 1)) (h : sg_st X M (.istore_n k) pc ls st z σ = some (.inl (pc', ls', st', z', σ'))) (K : sg_OK p l e R s m args below meth c M A D q ra n0 ad0 Q pc' ls' st' z' σ') : sg_OK p l e R s m args below meth c M A D q ra n0 ad0 Q pc ls st z σ := by
  obtain ⟨hx, hb, hml, hr, hown, hts, hnw, hK, hRO, hA, hlk, hmn, hfr, hlo⟩ := C
  simp only [sg_st, sg_sti] at h
  split at h
  · rename_i x r
    split at h
    · rename_i hk
      simp only [sg_nx, Option.some.injEq, Sum.inl.injEq, Prod.mk.injEq] at h
      obtain ⟨rfl, rfl, rfl, rfl, rfl⟩ := h
      intro H locs ad arr hI hL hw hs
      simp only [sg_ws, List.all_cons, Bool.and_eq_true] at hs
      exact lv_istore_n (lv' := _) hx hb hd rfl hL.has hk rfl (fun arr' hl' => K H locs ad arr' hI (sg_LH.s1 (v := .int x) hl') (sg_wl_s1 hw rfl) hs.2)
    · cases h
  · cases h
theorem sg_p_lstore (C : sg_Cx p R s m args meth c M A D q X ra) {k : Nat} (hd : decode (sg_mc M) pc = .ok (.lstore k, 2)) (h : sg_st X M (.lstore k) pc ls st z σ = some (.inl (pc', ls', st', z', σ'))) (K : sg_OK p l e R s m args below meth c M A D q ra n0 ad0 Q pc' ls' st' z' σ') : sg_OK p l e R s m args below meth c M A D q ra n0 ad0 Q pc ls st z σ := by
  obtain ⟨hx, hb, hml, hr, hown, hts, hnw, hK, hRO, hA, hlk, hmn, hfr, hlo⟩ := C
  simp only [sg_st, sg_stl] at h
  split at h
  · rename_i x r
    split at h
    · rename_i hk
      simp only [sg_nx, Option.some.injEq, Sum.inl.injEq, Prod.mk.injEq] at h
      obtain ⟨rfl, rfl, rfl, rfl, rfl⟩ := h
      intro H locs ad arr hI hL hw hs
      simp only [sg_ws, List.all_cons, Bool.and_eq_true] at hs
      exact lv_lstore (lv' := _) hx hb hd hL.has hk rfl (fun arr' hl' => K H locs ad arr' hI (sg_LH.s2 (v := .long x) hl') (sg_wl_s2 hw rfl) hs.2)
    · cases h
  · cases h
theorem sg_p_lstore_n (C : sg_Cx p R s m args meth c M A D q X ra) {k : Fin 4} (hd : decode (sg_mc M) pc = .ok (.lstore_n k, 1)) (h : sg_st X M (.lstore_n k) pc ls st z σ = some (.inl (pc', ls', st', z', σ'))) (K : sg_OK p l e R s m args below meth c M A D q ra n0 ad0 Q pc' ls' st' z' σ') : sg_OK p l e R s m args below meth c M A D q ra n0 ad0 Q pc ls st z σ := by
  obtain ⟨hx, hb, hml, hr, hown, hts, hnw, hK, hRO, hA, hlk, hmn, hfr, hlo⟩ := C
  simp only [sg_st, sg_stl] at h
  split at h
  · rename_i x r
    split at h
    · rename_i hk
      simp only [sg_nx, Option.some.injEq, Sum.inl.injEq, Prod.mk.injEq] at h
      obtain ⟨rfl, rfl, rfl, rfl, rfl⟩ := h
      intro H locs ad arr hI hL hw hs
      simp only [sg_ws, List.all_cons, Bool.and_eq_true] at hs
      exact lv_lstore_n (lv' := _) hx hb hd rfl hL.has hk rfl (fun arr' hl' => K H locs ad arr' hI (sg_LH.s2 (v := .long x) hl') (sg_wl_s2 hw rfl) hs.2)
    · cases h
  · cases h
theorem sg_p_astore (C : sg_Cx p R s m args meth c M A D q X ra) {k : Nat} (hd : decode (sg_mc M) pc = .ok (.astore k, 2)) (h : sg_st X M (.astore k) pc ls st z σ = some (.inl (pc', ls', st', z', σ'))) (K : sg_OK p l e R s m args below meth c M A D q ra n0 ad0 Q pc' ls' st' z' σ') : sg_OK p l e R s m args below meth c M A D q ra n0 ad0 Q pc ls st z σ := by
  obtain ⟨hx, hb, hml, hr, hown, hts, hnw, hK, hRO, hA, hlk, hmn, hfr, hlo⟩ := C
  simp only [sg_st, sg_sta] at h
  split at h
  · rename_i x r
    split at h
    · rename_i hk
      simp only [sg_nx, Option.some.injEq, Sum.inl.injEq, Prod.mk.injEq] at h
      obtain ⟨rfl, rfl, rfl, rfl, rfl⟩ := h
      intro H locs ad arr hI hL hw hs
      simp only [sg_ws, List.all_cons, Bool.and_eq_true] at hs
      exact lv_astore (lv' := _) hx hb hd hL.has hk rfl (fun arr' hl' => K H locs ad arr' hI (sg_LH.s1 (v := .ref x) hl') (sg_wl_s1 hw hs.1) hs.2)
    · cases h
  · cases h
theorem sg_p_astore_n (C : sg_Cx p R s m args meth c M A D q X ra) {k : Fin 4} (hd : decode (sg_mc M) pc = .ok (.astore_n k, 1)) (h : sg_st X M (.astore_n k) pc ls st z σ = some (.inl (pc', ls', st', z', σ'))) (K : sg_OK p l e R s m args below meth c M A D q ra n0 ad0 Q pc' ls' st' z' σ') : sg_OK p l e R s m args below meth c M A D q ra n0 ad0 Q pc ls st z σ := by
  obtain ⟨hx, hb, hml, hr, hown, hts, hnw, hK, hRO, hA, hlk, hmn, hfr, hlo⟩ := C
  simp only [sg_st, sg_sta] at h
  split at h
  · rename_i x r
    split at h
    · rename_i hk
      simp only [sg_nx, Option.some.injEq, Sum.inl.injEq, Prod.mk.injEq] at h
      obtain ⟨rfl, rfl, rfl, rfl, rfl⟩ := h
      intro H locs ad arr hI hL hw hs
      simp only [sg_ws, List.all_cons, Bool.and_eq_true] at hs
      exact lv_astore_n (lv' := _) hx hb hd rfl hL.has hk rfl (fun arr' hl' => K H locs ad arr' hI (sg_LH.s1 (v := .ref x) hl') (sg_wl_s1 hw hs.1) hs.2)
    · cases h
  · cases h
theorem sg_p_iinc (C : sg_Cx p R s m args meth c M A D q X ra) {k : Nat} {d : Int} (hd : decode (sg_mc M) pc = .ok (.iinc k d, 3)) (h : sg_st X M (.iinc k d) pc ls st z σ = some (.inl (pc', ls', st', z', σ'))) (K : sg_OK p l e R s m args below meth c M A D q ra n0 ad0 Q pc' ls' st' z' σ') : sg_OK p l e R s m args below meth c M A D q ra n0 ad0 Q pc ls st z σ := by
  obtain ⟨hx, hb, hml, hr, hown, hts, hnw, hK, hRO, hA, hlk, hmn, hfr, hlo⟩ := C
  simp only [sg_st] at h
  split at h
  · rename_i x hv
    split at h
    · rename_i hk
      simp only [sg_nx, Option.some.injEq, Sum.inl.injEq, Prod.mk.injEq] at h
      obtain ⟨rfl, rfl, rfl, rfl, rfl⟩ := h
      intro H locs ad arr hI hL hw hs
      obtain ⟨j, hj⟩ := List.getElem?_of_mem (sg_al_mem (ad := ad) (ra := ra).mpr ⟨_, hv, rfl⟩)
      exact lv_iinc (lv' := _) (x := x) hx hb hd hL.has (k := j) hj rfl hk rfl (fun arr' hl' => K H locs ad arr' hI (sg_LH.s1 (v := .int (x + Int32.ofInt d)) hl') (sg_wl_s1 hw rfl) hs)
    · cases h
  · cases h
theorem sg_p_iadd (C : sg_Cx p R s m args meth c M A D q X ra)  (hd : decode (sg_mc M) pc = .ok (.iadd, 1)) (h : sg_st X M (.iadd) pc ls st z σ = some (.inl (pc', ls', st', z', σ'))) (K : sg_OK p l e R s m args below meth c M A D q ra n0 ad0 Q pc' ls' st' z' σ') : sg_OK p l e R s m args below meth c M A D q ra n0 ad0 Q pc ls st z σ := by
  obtain ⟨hx, hb, hml, hr, hown, hts, hnw, hK, hRO, hA, hlk, hmn, hfr, hlo⟩ := C
  simp only [sg_st, sg_i2] at h
  split at h
  · rename_i y x r
    simp only [sg_nx, Option.some.injEq, Sum.inl.injEq, Prod.mk.injEq] at h
    obtain ⟨rfl, rfl, rfl, rfl, rfl⟩ := h
    intro H locs ad arr hI hL hw hs
    exact lv_iadd hx hb hd (K H locs ad arr hI hL hw (by simpa [sg_ws, sg_wv] using hs))
  · cases h
theorem sg_p_isub (C : sg_Cx p R s m args meth c M A D q X ra)  (hd : decode (sg_mc M) pc = .ok (.isub, 1)) (h : sg_st X M (.isub) pc ls st z σ = some (.inl (pc', ls', st', z', σ'))) (K : sg_OK p l e R s m args below meth c M A D q ra n0 ad0 Q pc' ls' st' z' σ') : sg_OK p l e R s m args below meth c M A D q ra n0 ad0 Q pc ls st z σ := by
  obtain ⟨hx, hb, hml, hr, hown, hts, hnw, hK, hRO, hA, hlk, hmn, hfr, hlo⟩ := C
  simp only [sg_st, sg_i2] at h
  split at h
  · rename_i y x r
    simp only [sg_nx, Option.some.injEq, Sum.inl.injEq, Prod.mk.injEq] at h
    obtain ⟨rfl, rfl, rfl, rfl, rfl⟩ := h
    intro H locs ad arr hI hL hw hs
    exact lv_isub hx hb hd (K H locs ad arr hI hL hw (by simpa [sg_ws, sg_wv] using hs))
  · cases h
theorem sg_p_imul (C : sg_Cx p R s m args meth c M A D q X ra)  (hd : decode (sg_mc M) pc = .ok (.imul, 1)) (h : sg_st X M (.imul) pc ls st z σ = some (.inl (pc', ls', st', z', σ'))) (K : sg_OK p l e R s m args below meth c M A D q ra n0 ad0 Q pc' ls' st' z' σ') : sg_OK p l e R s m args below meth c M A D q ra n0 ad0 Q pc ls st z σ := by
  obtain ⟨hx, hb, hml, hr, hown, hts, hnw, hK, hRO, hA, hlk, hmn, hfr, hlo⟩ := C
  simp only [sg_st, sg_i2] at h
  split at h
  · rename_i y x r
    simp only [sg_nx, Option.some.injEq, Sum.inl.injEq, Prod.mk.injEq] at h
    obtain ⟨rfl, rfl, rfl, rfl, rfl⟩ := h
    intro H locs ad arr hI hL hw hs
    exact lv_imul hx hb hd (K H locs ad arr hI hL hw (by simpa [sg_ws, sg_wv] using hs))
  · cases h
theorem sg_p_iand (C : sg_Cx p R s m args meth c M A D q X ra)  (hd : decode (sg_mc M) pc = .ok (.iand, 1)) (h : sg_st X M (.iand) pc ls st z σ = some (.inl (pc', ls', st', z', σ'))) (K : sg_OK p l e R s m args below meth c M A D q ra n0 ad0 Q pc' ls' st' z' σ') : sg_OK p l e R s m args below meth c M A D q ra n0 ad0 Q pc ls st z σ := by
  obtain ⟨hx, hb, hml, hr, hown, hts, hnw, hK, hRO, hA, hlk, hmn, hfr, hlo⟩ := C
  simp only [sg_st, sg_i2] at h
  split at h
  · rename_i y x r
    simp only [sg_nx, Option.some.injEq, Sum.inl.injEq, Prod.mk.injEq] at h
    obtain ⟨rfl, rfl, rfl, rfl, rfl⟩ := h
    intro H locs ad arr hI hL hw hs
    exact lv_iand hx hb hd (K H locs ad arr hI hL hw (by simpa [sg_ws, sg_wv] using hs))
  · cases h
theorem sg_p_ior (C : sg_Cx p R s m args meth c M A D q X ra)  (hd : decode (sg_mc M) pc = .ok (.ior, 1)) (h : sg_st X M (.ior) pc ls st z σ = some (.inl (pc', ls', st', z', σ'))) (K : sg_OK p l e R s m args below meth c M A D q ra n0 ad0 Q pc' ls' st' z' σ') : sg_OK p l e R s m args below meth c M A D q ra n0 ad0 Q pc ls st z σ := by
  obtain ⟨hx, hb, hml, hr, hown, hts, hnw, hK, hRO, hA, hlk, hmn, hfr, hlo⟩ := C
  simp only [sg_st, sg_i2] at h
  split at h
  · rename_i y x r
    simp only [sg_nx, Option.some.injEq, Sum.inl.injEq, Prod.mk.injEq] at h
    obtain ⟨rfl, rfl, rfl, rfl, rfl⟩ := h
    intro H locs ad arr hI hL hw hs
    exact lv_ior hx hb hd (K H locs ad arr hI hL hw (by simpa [sg_ws, sg_wv] using hs))
  · cases h
theorem sg_p_ixor (C : sg_Cx p R s m args meth c M A D q X ra)  (hd : decode (sg_mc M) pc = .ok (.ixor, 1)) (h : sg_st X M (.ixor) pc ls st z σ = some (.inl (pc', ls', st', z', σ'))) (K : sg_OK p l e R s m args below meth c M A D q ra n0 ad0 Q pc' ls' st' z' σ') : sg_OK p l e R s m args below meth c M A D q ra n0 ad0 Q pc ls st z σ := by
  obtain ⟨hx, hb, hml, hr, hown, hts, hnw, hK, hRO, hA, hlk, hmn, hfr, hlo⟩ := C
  simp only [sg_st, sg_i2] at h
  split at h
  · rename_i y x r
    simp only [sg_nx, Option.some.injEq, Sum.inl.injEq, Prod.mk.injEq] at h
    obtain ⟨rfl, rfl, rfl, rfl, rfl⟩ := h
    intro H locs ad arr hI hL hw hs
    exact lv_ixor hx hb hd (K H locs ad arr hI hL hw (by simpa [sg_ws, sg_wv] using hs))
  · cases h
theorem sg_p_ishl (C : sg_Cx p R s m args meth c M A D q X ra)  (hd : decode (sg_mc M) pc = .ok (.ishl, 1)) (h : sg_st X M (.ishl) pc ls st z σ = some (.inl (pc', ls', st', z', σ'))) (K : sg_OK p l e R s m args below meth c M A D q ra n0 ad0 Q pc' ls' st' z' σ') : sg_OK p l e R s m args below meth c M A D q ra n0 ad0 Q pc ls st z σ := by
  obtain ⟨hx, hb, hml, hr, hown, hts, hnw, hK, hRO, hA, hlk, hmn, hfr, hlo⟩ := C
  simp only [sg_st, sg_i2] at h
  split at h
  · rename_i y x r
    simp only [sg_nx, Option.some.injEq, Sum.inl.injEq, Prod.mk.injEq] at h
    obtain ⟨rfl, rfl, rfl, rfl, rfl⟩ := h
    intro H locs ad arr hI hL hw hs
    exact lv_ishl hx hb hd (K H locs ad arr hI hL hw (by simpa [sg_ws, sg_wv] using hs))
  · cases h
theorem sg_p_ishr (C : sg_Cx p R s m args meth c M A D q X ra)  (hd : decode (sg_mc M) pc = .ok (.ishr, 1)) (h : sg_st X M (.ishr) pc ls st z σ = some (.inl (pc', ls', st', z', σ'))) (K : sg_OK p l e R s m args below meth c M A D q ra n0 ad0 Q pc' ls' st' z' σ') : sg_OK p l e R s m args below meth c M A D q ra n0 ad0 Q pc ls st z σ := by
  obtain ⟨hx, hb, hml, hr, hown, hts, hnw, hK, hRO, hA, hlk, hmn, hfr, hlo⟩ := C
  simp only [sg_st, sg_i2] at h
  split at h
  · rename_i y x r
    simp only [sg_nx, Option.some.injEq, Sum.inl.injEq, Prod.mk.injEq] at h
    obtain ⟨rfl, rfl, rfl, rfl, rfl⟩ := h
    intro H locs ad arr hI hL hw hs
    exact lv_ishr hx hb hd (K H locs ad arr hI hL hw (by simpa [sg_ws, sg_wv] using hs))
  · cases h
theorem sg_p_iushr (C : sg_Cx p R s m args meth c M A D q X ra)  (hd : decode (sg_mc M) pc = .ok (.iushr, 1)) (h : sg_st X M (.iushr) pc ls st z σ = some (.inl (pc', ls', st', z', σ'))) (K : sg_OK p l e R s m args below meth c M A D q ra n0 ad0 Q pc' ls' st' z' σ') : sg_OK p l e R s m args below meth c M A D q ra n0 ad0 Q pc ls st z σ := by
  obtain ⟨hx, hb, hml, hr, hown, hts, hnw, hK, hRO, hA, hlk, hmn, hfr, hlo⟩ := C
  simp only [sg_st, sg_i2] at h
  split at h
  · rename_i y x r
    simp only [sg_nx, Option.some.injEq, Sum.inl.injEq, Prod.mk.injEq] at h
    obtain ⟨rfl, rfl, rfl, rfl, rfl⟩ := h
    intro H locs ad arr hI hL hw hs
    exact lv_iushr hx hb hd rfl (K H locs ad arr hI hL hw (by simpa [sg_ws, sg_wv] using hs))
  · cases h
theorem sg_p_idiv (C : sg_Cx p R s m args meth c M A D q X ra)  (hd : decode (sg_mc M) pc = .ok (.idiv, 1)) (h : sg_st X M (.idiv) pc ls st z σ = some (.inl (pc', ls', st', z', σ'))) (K : sg_OK p l e R s m args below meth c M A D q ra n0 ad0 Q pc' ls' st' z' σ') : sg_OK p l e R s m args below meth c M A D q ra n0 ad0 Q pc ls st z σ := by
  obtain ⟨hx, hb, hml, hr, hown, hts, hnw, hK, hRO, hA, hlk, hmn, hfr, hlo⟩ := C
  simp only [sg_st] at h
  split at h
  · rename_i y x r
    split at h
    · rename_i hy
      simp only [sg_nx, Option.some.injEq, Sum.inl.injEq, Prod.mk.injEq] at h
      obtain ⟨rfl, rfl, rfl, rfl, rfl⟩ := h
      intro H locs ad arr hI hL hw hs
      exact lv_idiv hx hb hd hy (K H locs ad arr hI hL hw (by simpa [sg_ws, sg_wv] using hs))
    · cases h
  · cases h
theorem sg_p_irem (C : sg_Cx p R s m args meth c M A D q X ra)  (hd : decode (sg_mc M) pc = .ok (.irem, 1)) (h : sg_st X M (.irem) pc ls st z σ = some (.inl (pc', ls', st', z', σ'))) (K : sg_OK p l e R s m args below meth c M A D q ra n0 ad0 Q pc' ls' st' z' σ') : sg_OK p l e R s m args below meth c M A D q ra n0 ad0 Q pc ls st z σ := by
  obtain ⟨hx, hb, hml, hr, hown, hts, hnw, hK, hRO, hA, hlk, hmn, hfr, hlo⟩ := C
  simp only [sg_st] at h
  split at h
  · rename_i y x r
    split at h
    · rename_i hy
      simp only [sg_nx, Option.some.injEq, Sum.inl.injEq, Prod.mk.injEq] at h
      obtain ⟨rfl, rfl, rfl, rfl, rfl⟩ := h
      intro H locs ad arr hI hL hw hs
      exact lv_irem hx hb hd hy (K H locs ad arr hI hL hw (by simpa [sg_ws, sg_wv] using hs))
    · cases h
  · cases h
theorem sg_p_ineg (C : sg_Cx p R s m args meth c M A D q X ra)  (hd : decode (sg_mc M) pc = .ok (.ineg, 1)) (h : sg_st X M (.ineg) pc ls st z σ = some (.inl (pc', ls', st', z', σ'))) (K : sg_OK p l e R s m args below meth c M A D q ra n0 ad0 Q pc' ls' st' z' σ') : sg_OK p l e R s m args below meth c M A D q ra n0 ad0 Q pc ls st z σ := by
  obtain ⟨hx, hb, hml, hr, hown, hts, hnw, hK, hRO, hA, hlk, hmn, hfr, hlo⟩ := C
  simp only [sg_st, sg_i1] at h
  split at h
  · rename_i x r
    simp only [sg_nx, Option.some.injEq, Sum.inl.injEq, Prod.mk.injEq] at h
    obtain ⟨rfl, rfl, rfl, rfl, rfl⟩ := h
    intro H locs ad arr hI hL hw hs
    exact lv_ineg hx hb hd (K H locs ad arr hI hL hw (by simpa [sg_ws, sg_wv] using hs))
  · cases h
theorem sg_p_i2b (C : sg_Cx p R s m args meth c M A D q X ra)  (hd : decode (sg_mc M) pc = .ok (.i2b, 1)) (h : sg_st X M (.i2b) pc ls st z σ = some (.inl (pc', ls', st', z', σ'))) (K : sg_OK p l e R s m args below meth c M A D q ra n0 ad0 Q pc' ls' st' z' σ') : sg_OK p l e R s m args below meth c M A D q ra n0 ad0 Q pc ls st z σ := by
  obtain ⟨hx, hb, hml, hr, hown, hts, hnw, hK, hRO, hA, hlk, hmn, hfr, hlo⟩ := C
  simp only [sg_st, sg_i1] at h
  split at h
  · rename_i x r
    simp only [sg_nx, Option.some.injEq, Sum.inl.injEq, Prod.mk.injEq] at h
    obtain ⟨rfl, rfl, rfl, rfl, rfl⟩ := h
    intro H locs ad arr hI hL hw hs
    exact lv_i2b hx hb hd rfl (K H locs ad arr hI hL hw (by simpa [sg_ws, sg_wv] using hs))
  · cases h
theorem sg_p_i2s (C : sg_Cx p R s m args meth c M A D q X ra)  (hd : decode (sg_mc M) pc = .ok (.i2s, 1)) (h : sg_st X M (.i2s) pc ls st z σ = some (.inl (pc', ls', st', z', σ'))) (K : sg_OK p l e R s m args below meth c M A D q ra n0 ad0 Q pc' ls' st' z' σ') : sg_OK p l e R s m args below meth c M A D q ra n0 ad0 Q pc ls st z σ := by
  obtain ⟨hx, hb, hml, hr, hown, hts, hnw, hK, hRO, hA, hlk, hmn, hfr, hlo⟩ := C
  simp only [sg_st, sg_i1] at h
  split at h
  · rename_i x r
    simp only [sg_nx, Option.some.injEq, Sum.inl.injEq, Prod.mk.injEq] at h
    obtain ⟨rfl, rfl, rfl, rfl, rfl⟩ := h
    intro H locs ad arr hI hL hw hs
    exact lv_i2s hx hb hd rfl (K H locs ad arr hI hL hw (by simpa [sg_ws, sg_wv] using hs))
  · cases h
theorem sg_p_i2l (C : sg_Cx p R s m args meth c M A D q X ra)  (hd : decode (sg_mc M) pc = .ok (.i2l, 1)) (h : sg_st X M (.i2l) pc ls st z σ = some (.inl (pc', ls', st', z', σ'))) (K : sg_OK p l e R s m args below meth c M A D q ra n0 ad0 Q pc' ls' st' z' σ') : sg_OK p l e R s m args below meth c M A D q ra n0 ad0 Q pc ls st z σ := by
  obtain ⟨hx, hb, hml, hr, hown, hts, hnw, hK, hRO, hA, hlk, hmn, hfr, hlo⟩ := C
  simp only [sg_st] at h
  split at h
  · rename_i x r
    simp only [sg_nx, Option.some.injEq, Sum.inl.injEq, Prod.mk.injEq] at h
    obtain ⟨rfl, rfl, rfl, rfl, rfl⟩ := h
    intro H locs ad arr hI hL hw hs
    exact lv_i2l hx hb hd rfl (K H locs ad arr hI hL hw (by simpa [sg_ws, sg_wv] using hs))
  · cases h
theorem sg_p_ladd (C : sg_Cx p R s m args meth c M A D q X ra)  (hd : decode (sg_mc M) pc = .ok (.ladd, 1)) (h : sg_st X M (.ladd) pc ls st z σ = some (.inl (pc', ls', st', z', σ'))) (K : sg_OK p l e R s m args below meth c M A D q ra n0 ad0 Q pc' ls' st' z' σ') : sg_OK p l e R s m args below meth c M A D q ra n0 ad0 Q pc ls st z σ := by
  obtain ⟨hx, hb, hml, hr, hown, hts, hnw, hK, hRO, hA, hlk, hmn, hfr, hlo⟩ := C
  simp only [sg_st, sg_l2] at h
  split at h
  · rename_i y x r
    simp only [sg_nx, Option.some.injEq, Sum.inl.injEq, Prod.mk.injEq] at h
    obtain ⟨rfl, rfl, rfl, rfl, rfl⟩ := h
    intro H locs ad arr hI hL hw hs
    exact lv_ladd hx hb hd (K H locs ad arr hI hL hw (by simpa [sg_ws, sg_wv] using hs))
  · cases h
theorem sg_p_lmul (C : sg_Cx p R s m args meth c M A D q X ra)  (hd : decode (sg_mc M) pc = .ok (.lmul, 1)) (h : sg_st X M (.lmul) pc ls st z σ = some (.inl (pc', ls', st', z', σ'))) (K : sg_OK p l e R s m args below meth c M A D q ra n0 ad0 Q pc' ls' st' z' σ') : sg_OK p l e R s m args below meth c M A D q ra n0 ad0 Q pc ls st z σ := by
  obtain ⟨hx, hb, hml, hr, hown, hts, hnw, hK, hRO, hA, hlk, hmn, hfr, hlo⟩ := C
  simp only [sg_st, sg_l2] at h
  split at h
  · rename_i y x r
    simp only [sg_nx, Option.some.injEq, Sum.inl.injEq, Prod.mk.injEq] at h
    obtain ⟨rfl, rfl, rfl, rfl, rfl⟩ := h
    intro H locs ad arr hI hL hw hs
    exact lv_lmul hx hb hd (K H locs ad arr hI hL hw (by simpa [sg_ws, sg_wv] using hs))
  · cases h
theorem sg_p_lcmp (C : sg_Cx p R s m args meth c M A D q X ra)  (hd : decode (sg_mc M) pc = .ok (.lcmp, 1)) (h : sg_st X M (.lcmp) pc ls st z σ = some (.inl (pc', ls', st', z', σ'))) (K : sg_OK p l e R s m args below meth c M A D q ra n0 ad0 Q pc' ls' st' z' σ') : sg_OK p l e R s m args below meth c M A D q ra n0 ad0 Q pc ls st z σ := by
  obtain ⟨hx, hb, hml, hr, hown, hts, hnw, hK, hRO, hA, hlk, hmn, hfr, hlo⟩ := C
  simp only [sg_st] at h
  split at h
  · rename_i y x r
    simp only [sg_nx, Option.some.injEq, Sum.inl.injEq, Prod.mk.injEq] at h
    obtain ⟨rfl, rfl, rfl, rfl, rfl⟩ := h
    intro H locs ad arr hI hL hw hs
    exact W.lcmp hx hb hd (K H locs ad arr hI hL hw (by simpa [sg_ws, sg_wv] using hs))
  · cases h
theorem sg_p_pop (C : sg_Cx p R s m args meth c M A D q X ra)  (hd : decode (sg_mc M) pc = .ok (.pop, 1)) (h : sg_st X M (.pop) pc ls st z σ = some (.inl (pc', ls', st', z', σ'))) (K : sg_OK p l e R s m args below meth c M A D q ra n0 ad0 Q pc' ls' st' z' σ') : sg_OK p l e R s m args below meth c M A D q ra n0 ad0 Q pc ls st z σ := by
  obtain ⟨hx, hb, hml, hr, hown, hts, hnw, hK, hRO, hA, hlk, hmn, hfr, hlo⟩ := C
  simp only [sg_st] at h
  split at h
  · rename_i v r
    split at h
    · rename_i hv
      simp only [sg_nx, Option.some.injEq, Sum.inl.injEq, Prod.mk.injEq] at h
      obtain ⟨rfl, rfl, rfl, rfl, rfl⟩ := h
      intro H locs ad arr hI hL hw hs
      simp only [sg_ws, List.all_cons, Bool.and_eq_true] at hs
      exact lv_pop hx hb hd (by rw [sg_vm_cat]; exact hv) (K H locs ad arr hI hL hw hs.2)
    · cases h
  · cases h
theorem sg_p_dup (C : sg_Cx p R s m args meth c M A D q X ra)  (hd : decode (sg_mc M) pc = .ok (.dup, 1)) (h : sg_st X M (.dup) pc ls st z σ = some (.inl (pc', ls', st', z', σ'))) (K : sg_OK p l e R s m args below meth c M A D q ra n0 ad0 Q pc' ls' st' z' σ') : sg_OK p l e R s m args below meth c M A D q ra n0 ad0 Q pc ls st z σ := by
  obtain ⟨hx, hb, hml, hr, hown, hts, hnw, hK, hRO, hA, hlk, hmn, hfr, hlo⟩ := C
  simp only [sg_st] at h
  split at h
  · rename_i v r
    split at h
    · rename_i hv
      simp only [sg_nx, Option.some.injEq, Sum.inl.injEq, Prod.mk.injEq] at h
      obtain ⟨rfl, rfl, rfl, rfl, rfl⟩ := h
      intro H locs ad arr hI hL hw hs
      simp only [sg_ws, List.all_cons, Bool.and_eq_true] at hs
      exact lv_dup hx hb hd (by rw [sg_vm_cat]; exact hv) (K H locs ad arr hI hL hw (by simp only [sg_ws, List.all_cons, Bool.and_eq_true]; exact ⟨hs.1, hs.1, hs.2⟩))
    · cases h
  · cases h
theorem sg_p_dup2 (C : sg_Cx p R s m args meth c M A D q X ra)  (hd : decode (sg_mc M) pc = .ok (.dup2, 1)) (h : sg_st X M (.dup2) pc ls st z σ = some (.inl (pc', ls', st', z', σ'))) (K : sg_OK p l e R s m args below meth c M A D q ra n0 ad0 Q pc' ls' st' z' σ') : sg_OK p l e R s m args below meth c M A D q ra n0 ad0 Q pc ls st z σ := by
  obtain ⟨hx, hb, hml, hr, hown, hts, hnw, hK, hRO, hA, hlk, hmn, hfr, hlo⟩ := C
  simp only [sg_st] at h
  split at h
  · rename_i v v2 r
    split at h
    · rename_i hv
      simp only [sg_nx, Option.some.injEq, Sum.inl.injEq, Prod.mk.injEq] at h
      obtain ⟨rfl, rfl, rfl, rfl, rfl⟩ := h
      intro H locs ad arr hI hL hw hs
      simp only [sg_ws, List.all_cons, Bool.and_eq_true] at hs
      exact lv_dup2_11 hx hb hd (by rw [sg_vm_cat]; exact hv.1) (by rw [sg_vm_cat]; exact hv.2) (K H locs ad arr hI hL hw (by simp only [sg_ws, List.all_cons, Bool.and_eq_true]; exact ⟨hs.1, hs.2.1, hs.1, hs.2.1, hs.2.2⟩))
    · cases h
  · cases h
theorem sg_p_goto (C : sg_Cx p R s m args meth c M A D q X ra) {off : Int} (hd : decode (sg_mc M) pc = .ok (.goto off, 3)) (h : sg_st X M (.goto off) pc ls st z σ = some (.inl (pc', ls', st', z', σ'))) (K : sg_OK p l e R s m args below meth c M A D q ra n0 ad0 Q pc' ls' st' z' σ') : sg_OK p l e R s m args below meth c M A D q ra n0 ad0 Q pc ls st z σ := by
  obtain ⟨hx, hb, hml, hr, hown, hts, hnw, hK, hRO, hA, hlk, hmn, hfr, hlo⟩ := C
  simp only [sg_st] at h
  split at h
  · rename_i h0
    simp only [sg_nx, Option.some.injEq, Sum.inl.injEq, Prod.mk.injEq] at h
    obtain ⟨rfl, rfl, rfl, rfl, rfl⟩ := h
    intro H locs ad arr hI hL hw hs
    exact lv_goto hx hb hd (by show _ = ((((pc : Int) + off).toNat : Nat) : Int); omega) (K H locs ad arr hI hL hw hs)
  · cases h
theorem sg_p_ifCond (C : sg_Cx p R s m args meth c M A D q X ra) {cd : ClassFile.Cond} {off : Int} (hd : decode (sg_mc M) pc = .ok (.ifCond cd off, 3)) (h : sg_st X M (.ifCond cd off) pc ls st z σ = some (.inl (pc', ls', st', z', σ'))) (K : sg_OK p l e R s m args below meth c M A D q ra n0 ad0 Q pc' ls' st' z' σ') : sg_OK p l e R s m args below meth c M A D q ra n0 ad0 Q pc ls st z σ := by
  obtain ⟨hx, hb, hml, hr, hown, hts, hnw, hK, hRO, hA, hlk, hmn, hfr, hlo⟩ := C
  simp only [sg_st] at h
  split at h
  · rename_i x r
    simp only [sg_jp] at h
    split at h
    · rename_i h0
      simp only [sg_nx, Option.some.injEq, Sum.inl.injEq, Prod.mk.injEq] at h
      obtain ⟨rfl, rfl, rfl, rfl, rfl⟩ := h
      have ht : (pc : Int) + off = ((((pc : Int) + off).toNat : Nat) : Int) := by omega
      intro H locs ad arr hI hL hw hs
      have K1 := K H locs ad arr hI hL hw (by simpa [sg_ws, sg_wv] using hs)
      cases cd with
      | eq => exact lv_if_eq hx hb hd ht (fun hc => by simpa [sg_cmp, hc] using K1) (fun hc => by simpa [sg_cmp, hc] using K1)
      | ne => exact lv_if_ne hx hb hd ht (fun hc => by simpa [sg_cmp, hc] using K1) (fun hc => by simpa [sg_cmp, hc] using K1)
      | lt => exact lv_if_lt hx hb hd ht (fun hc => by simpa [sg_cmp, hc] using K1) (fun hc => by simpa [sg_cmp, hc] using K1)
      | ge => exact lv_if_ge hx hb hd ht (fun hc => by simpa [sg_cmp, hc] using K1) (fun hc => by simpa [sg_cmp, hc] using K1)
      | gt => exact lv_if_gt hx hb hd ht (fun hc => by simpa [sg_cmp, hc] using K1) (fun hc => by simpa [sg_cmp, hc] using K1)
      | le => exact lv_if_le hx hb hd ht (fun hc => by simpa [sg_cmp, hc] using K1) (fun hc => by simpa [sg_cmp, hc] using K1)
    · cases h
  · cases h
theorem sg_p_if_icmp (C : sg_Cx p R s m args meth c M A D q X ra) {cd : ClassFile.Cond} {off : Int} (hd : decode (sg_mc M) pc = .ok (.if_icmp cd off, 3)) (h : sg_st X M (.if_icmp cd off) pc ls st z σ = some (.inl (pc', ls', st', z', σ'))) (K : sg_OK p l e R s m args below meth c M A D q ra n0 ad0 Q pc' ls' st' z' σ') : sg_OK p l e R s m args below meth c M A D q ra n0 ad0 Q pc ls st z σ := by
  obtain ⟨hx, hb, hml, hr, hown, hts, hnw, hK, hRO, hA, hlk, hmn, hfr, hlo⟩ := C
  simp only [sg_st] at h
  split at h
  · rename_i y x r
    simp only [sg_jp] at h
    split at h
    · rename_i h0
      simp only [sg_nx, Option.some.injEq, Sum.inl.injEq, Prod.mk.injEq] at h
      obtain ⟨rfl, rfl, rfl, rfl, rfl⟩ := h
      have ht : (pc : Int) + off = ((((pc : Int) + off).toNat : Nat) : Int) := by omega
      intro H locs ad arr hI hL hw hs
      have K1 := K H locs ad arr hI hL hw (by simpa [sg_ws, sg_wv] using hs)
      cases cd with
      | eq => exact lv_icmp_eq hx hb hd ht (fun hc => by simpa [sg_cmp, hc] using K1) (fun hc => by simpa [sg_cmp, hc] using K1)
      | ne => exact lv_icmp_ne hx hb hd ht (fun hc => by simpa [sg_cmp, hc] using K1) (fun hc => by simpa [sg_cmp, hc] using K1)
      | lt => exact lv_icmp_lt hx hb hd ht (fun hc => by simpa [sg_cmp, hc] using K1) (fun hc => by simpa [sg_cmp, hc] using K1)
      | ge => exact lv_icmp_ge hx hb hd ht (fun hc => by simpa [sg_cmp, hc] using K1) (fun hc => by simpa [sg_cmp, hc] using K1)
      | gt => exact lv_icmp_gt hx hb hd ht (fun hc => by simpa [sg_cmp, hc] using K1) (fun hc => by simpa [sg_cmp, hc] using K1)
      | le => exact lv_icmp_le hx hb hd ht (fun hc => by simpa [sg_cmp, hc] using K1) (fun hc => by simpa [sg_cmp, hc] using K1)
    · cases h
  · cases h
theorem sg_p_tableswitch (C : sg_Cx p R s m args meth c M A D q X ra) {d lo hi : Int} {offs : Array Int} {n : Nat} (hd : decode (sg_mc M) pc = .ok (.tableswitch d lo hi offs, n)) (h : sg_st X M (.tableswitch d lo hi offs) pc ls st z σ = some (.inl (pc', ls', st', z', σ'))) (K : sg_OK p l e R s m args below meth c M A D q ra n0 ad0 Q pc' ls' st' z' σ') : sg_OK p l e R s m args below meth c M A D q ra n0 ad0 Q pc ls st z σ := by
  obtain ⟨hx, hb, hml, hr, hown, hts, hnw, hK, hRO, hA, hlk, hmn, hfr, hlo⟩ := C
  simp only [sg_st] at h
  split at h
  · rename_i x r
    split at h
    · rename_i hout
      split at h
      · rename_i h0
        simp only [sg_nx, Option.some.injEq, Sum.inl.injEq, Prod.mk.injEq] at h
        obtain ⟨rfl, rfl, rfl, rfl, rfl⟩ := h
        intro H locs ad arr hI hL hw hs
        exact lv_tableOut hx hb hd hout (by show _ = ((((pc : Int) + d).toNat : Nat) : Int); omega) (K H locs ad arr hI hL hw (by simpa [sg_ws, sg_wv] using hs))
      · cases h
    · rename_i hin
      split at h
      · rename_i off ho
        split at h
        · rename_i h0
          simp only [sg_nx, Option.some.injEq, Sum.inl.injEq, Prod.mk.injEq] at h
          obtain ⟨rfl, rfl, rfl, rfl, rfl⟩ := h
          intro H locs ad arr hI hL hw hs
          exact lv_tableIn hx hb hd (fun q => hin (Or.inl q)) (fun q => hin (Or.inr q)) ho (by show _ = ((((pc : Int) + off).toNat : Nat) : Int); omega) (K H locs ad arr hI hL hw (by simpa [sg_ws, sg_wv] using hs))
        · cases h
      · cases h
  · cases h
end SG
end
section
theorem sg_rty {c j : Nat} (hc : c < 11) (hj : j < sg_nf c) (hr : sg_rb c j = true) : (∃ n, sg_tT c j = .object n) ∨ ∃ t, sg_tT c j = .array t := by
  rcases sg_rk c hc j hj hr with h | h | h | h
  · exact Or.inr ⟨_, h⟩
  · exact Or.inr ⟨_, h⟩
  · obtain ⟨d, -, hd⟩ := List.any_eq_true.mp h
    exact Or.inl ⟨_, of_decide_eq_true hd⟩
  · exact Or.inr ⟨_, h⟩
theorem sg_rfit {ty : FieldType} (h : (∃ n, ty = .object n) ∨ ∃ t, ty = .array t) (x : Nat) : narrow ty (.ref x) = .ref x ∧ fits ty (.ref x) = true := by
  rcases h with ⟨n, rfl⟩ | ⟨t, rfl⟩ <;> exact ⟨rfl, rfl⟩
theorem sg_LI_new {n : Nat} {lk : Nat → Nat → Bool} (h : sg_LI n lk) (hn : ∀ j, sg_is n j = true → lk n j = false) : sg_LI (n + 1) lk := by
  intro k j hk hl hi
  by_cases e : k = n
  · subst e
    rw [hn j hi] at hl
    cases hl
  · exact Nat.lt_succ_of_lt (h k j (by omega) hl hi)
theorem sg_is0 {k j : Nat} (h : sg_kd k = 0) : sg_is k j = sg_rb (sg_ag k) j := by simp [sg_is, h]
theorem sg_is1 {k j : Nat} (h : sg_kd k = 1 ∨ sg_kd k = 2) : sg_is k j = false := by rcases h with h | h <;> simp [sg_is, h]
theorem sg_is3 {k j : Nat} (h : sg_kd k = 3) : sg_is k j = decide (j < sg_ag k) := by simp [sg_is, h]
theorem sg_rb_nf {c j : Nat} (h : sg_rb c j = true) : j < sg_nf c := by
  unfold sg_rb at h
  unfold sg_nf
  by_cases hj : j < (sg_RB.getD c []).length
  · exact hj
  · rw [List.getD_eq_getElem?_getD, List.getElem?_eq_none (by omega)] at h
    cases h
section SGH
variable {p : Program} {l : Launch} {e : Env} {R : Room} {s : State} {m : MethodId} {args : Array Value} {below : List Frame} {meth : Method} {c : Code} {M : Nat} {A : Nat → Prop} {D : va_G} {q : sg_Ci} {X : sg_X} {ra : Nat → Nat} {n0 : Nat} {ad0 : Nat → Nat} {Q : State → Prop}
variable {pc pc' : Nat} {ls ls' : sg_L} {st st' : List Value} {z z' : sg_Z} {σ σ' : sg_S}
theorem sg_p_getfield (C : sg_Cx p R s m args meth c M A D q X ra) {k : Nat} (hd : decode (sg_mc M) pc = .ok (.getfield k, 3)) (h : sg_st X M (.getfield k) pc ls st z σ = some (.inl (pc', ls', st', z', σ'))) (K : sg_OK p l e R s m args below meth c M A D q ra n0 ad0 Q pc' ls' st' z' σ') : sg_OK p l e R s m args below meth c M A D q ra n0 ad0 Q pc ls st z σ := by
  obtain ⟨hx, hb, hml, hr, hown, hts, hnw, hK, hRO, hA, hlk, hmn, hfr, hlo⟩ := C
  simp only [sg_st] at h
  split at h
  · rename_i a r
    split at h
    · rename_i ci j pl hf
      obtain ⟨hw1, hc, hj⟩ := sg_fl_ok hf
      split at h
      · rename_i hc0
        obtain ⟨ha, hk0, hag⟩ := hc0
        have hfk := sg_fk ci hc j hj
        have hsame : ∀ x, s.fieldFound? ((sg_cT ci).2.1 j).1 ((sg_cT ci).2.1 j).2.1 ((sg_cT ci).2.1 j).2.2.1 = some x → s.fieldFound? (sg_cn ci) ((sg_cT ci).2.1 j).2.1 ((sg_cT ci).2.1 j).2.2.1 = some x := by
          intro x hx
          rw [hfk.1, hfk.2.2.2.2] at hx
          exact hx
        split at h
        · rename_i hrb
          split at h
          · rename_i hlk2
            simp only [sg_nx, Option.some.injEq, Sum.inl.injEq, Prod.mk.injEq] at h
            obtain ⟨rfl, rfl, rfl, rfl, rfl⟩ := h
            intro H locs ad arr hI hL hw hs
            obtain ⟨hP, hD, hS, hn, hLI, hn0, had⟩ := hI
            have he := sg_wd_get (q := q) (ad := ad) (lk := z.2.2.2) (σ := σ) ha
            rw [sg_et0 hk0, hag] at he
            have e1 : sg_vm ad ra (.ref a) = .ref (ad a) := sg_vm_ref hn ha
            have e2 : sg_vm ad ra (.ref (sg_rf a j)) = .ref (ad (sg_rf a j)) := sg_vm_ref hn hlk2.2
            simp only [sg_ws, List.all_cons, Bool.and_eq_true] at hs
            have K1 := K H locs ad arr ⟨hP, hD, hS, hn, hLI, hn0, had⟩ hL hw (by simp only [sg_ws, List.all_cons, Bool.and_eq_true]; exact ⟨by simp [sg_wv, hlk2.2], hs.2⟩)
            rw [List.map_cons, e2] at K1
            rw [List.map_cons, e1]
            exact va_get hx hb hts (sg_uws hc) hown hK hP a he (sg_vw hc) j (by rw [sg_vn ci hc]; exact hj) (hts _ hw1) hsame (by rw [sg_fs_get (by rw [hag]; exact hj)]; simp only [sg_fv, hag, hrb, hlk2.1, if_true]) hd K1
          · cases h
        · rename_i hrb
          simp only [sg_nx, Option.some.injEq, Sum.inl.injEq, Prod.mk.injEq] at h
          obtain ⟨rfl, rfl, rfl, rfl, rfl⟩ := h
          intro H locs ad arr hI hL hw hs
          obtain ⟨hP, hD, hS, hn, hLI, hn0, had⟩ := hI
          have he := sg_wd_get (q := q) (ad := ad) (lk := z.2.2.2) (σ := σ) ha
          rw [sg_et0 hk0, hag] at he
          have e1 : sg_vm ad ra (.ref a) = .ref (ad a) := sg_vm_ref hn ha
          simp only [sg_ws, List.all_cons, Bool.and_eq_true] at hs
          have K1 := K H locs ad arr ⟨hP, hD, hS, hn, hLI, hn0, had⟩ hL hw (by simp only [sg_ws, List.all_cons, Bool.and_eq_true]; exact ⟨trivial, hs.2⟩)
          rw [List.map_cons, e1]
          exact va_get hx hb hts (sg_uws hc) hown hK hP a he (sg_vw hc) j (by rw [sg_vn ci hc]; exact hj) (hts _ hw1) hsame (by rw [sg_fs_get (by rw [hag]; exact hj)]; simp only [sg_fv, hag, hrb]; rfl) hd K1
      · cases h
    · cases h
  · cases h
theorem sg_p_putfield (C : sg_Cx p R s m args meth c M A D q X ra) {k : Nat} (hd : decode (sg_mc M) pc = .ok (.putfield k, 3)) (h : sg_st X M (.putfield k) pc ls st z σ = some (.inl (pc', ls', st', z', σ'))) (K : sg_OK p l e R s m args below meth c M A D q ra n0 ad0 Q pc' ls' st' z' σ') : sg_OK p l e R s m args below meth c M A D q ra n0 ad0 Q pc ls st z σ := by
  obtain ⟨hx, hb, hml, hr, hown, hts, hnw, hK, hRO, hA, hlk, hmn, hfr, hlo⟩ := C
  simp only [sg_st] at h
  split at h
  · rename_i v a r
    split at h
    · rename_i ci j pl hf
      obtain ⟨hw1, hc, hj⟩ := sg_fl_ok hf
      split at h
      · rename_i hc0
        have hfk := sg_fk ci hc j hj
        have hsame : ∀ x, s.fieldFound? ((sg_cT ci).2.1 j).1 ((sg_cT ci).2.1 j).2.1 ((sg_cT ci).2.1 j).2.2.1 = some x → s.fieldFound? (sg_cn ci) ((sg_cT ci).2.1 j).2.1 ((sg_cT ci).2.1 j).2.2.1 = some x := by
          intro x hx
          rw [hfk.1, hfk.2.2.2.2] at hx
          exact hx
        obtain ⟨ha, hk0, hag, hrb, hfb⟩ := hc0
        simp only [sg_nx, Option.some.injEq, Sum.inl.injEq, Prod.mk.injEq] at h
        obtain ⟨rfl, rfl, rfl, rfl, rfl⟩ := h
        intro H locs ad arr hI hL hw hs
        obtain ⟨hP, hD, hS, hn, hLI, hn0, had⟩ := hI
        have he := sg_wd_get (q := q) (ad := ad) (lk := z.2.2.2) (σ := σ) ha
        rw [sg_et0 hk0, hag] at he
        have e1 : sg_vm ad ra (.ref a) = .ref (ad a) := sg_vm_ref hn ha
        simp only [sg_ws, List.all_cons, Bool.and_eq_true] at hs
        rw [List.map_cons, List.map_cons, e1]
        have hset : ∀ e', e' = Sum.inr (ci, (sg_fs ad z.2.2.2 σ a).set j (.int v)) → (sg_wd q ad z.1 z.2.2.2 σ).set a (ad a, e') = sg_wd q ad z.1 z.2.2.2 (sg_up σ a j v) := by
          intro e' he'
          refine sg_wd_set ha ?_ (fun i _ hi => sg_et_row (sg_up_row hi) rfl)
          rw [he', sg_et0 hk0, hag, sg_fs_set (lk' := z.2.2.2) (σ' := sg_up σ a j v) (by rw [hag]; exact hj)]
          · simp only [sg_fv, hag, hrb, sg_up_self, va_up_self]; rfl
          · exact fun i hi => ⟨by rw [sg_up_self, va_up_ne _ _ hi], rfl⟩
        refine va_put (D := D) (ty := .int) (v := .int v) hx hb hts (sg_uws hc) (sg_tT ci) (sg_tys hc) (sg_nms hc) hown hK hP hD hS a he (sg_vw hc) j (by rw [sg_vn ci hc]; exact hj) (hts _ hw1) hsame (by rw [hfk.2.1]; exact hfb) (by rw [sg_tys hc j (by rw [sg_vn ci hc]; exact hj), hfk.2.2.1 hrb]) rfl rfl (by rw [sg_fs_len, hag]; exact hj) hd (fun H1 locs1 hP1 hD1 hS1 => ?_)
        rw [hset _ rfl] at hP1 hD1
        exact K H1 locs1 ad arr ⟨hP1, hD1, hS1, hn, hLI, hn0, had⟩ hL hw hs.2.2
      · cases h
    · cases h
  · rename_i b a r
    split at h
    · rename_i ci j pl hf
      obtain ⟨hw1, hc, hj⟩ := sg_fl_ok hf
      split at h
      · rename_i hc0
        have hfk := sg_fk ci hc j hj
        have hsame : ∀ x, s.fieldFound? ((sg_cT ci).2.1 j).1 ((sg_cT ci).2.1 j).2.1 ((sg_cT ci).2.1 j).2.2.1 = some x → s.fieldFound? (sg_cn ci) ((sg_cT ci).2.1 j).2.1 ((sg_cT ci).2.1 j).2.2.1 = some x := by
          intro x hx
          rw [hfk.1, hfk.2.2.2.2] at hx
          exact hx
        obtain ⟨ha, hk0, hag, hrb, hfb, hbr, hbn, hin, hmo⟩ := hc0
        simp only [sg_nx, Option.some.injEq, Sum.inl.injEq, Prod.mk.injEq] at h
        obtain ⟨rfl, rfl, rfl, rfl, rfl⟩ := h
        intro H locs ad arr hI hL hw hs
        obtain ⟨hP, hD, hS, hn, hLI, hn0, had⟩ := hI
        have he := sg_wd_get (q := q) (ad := ad) (lk := z.2.2.2) (σ := σ) ha
        rw [sg_et0 hk0, hag] at he
        have e1 : sg_vm ad ra (.ref a) = .ref (ad a) := sg_vm_ref hn ha
        have e2 : sg_vm ad ra (.ref b) = .ref (ad b) := sg_vm_ref hn hbn
        simp only [sg_ws, List.all_cons, Bool.and_eq_true] at hs
        rw [List.map_cons, List.map_cons, e1, e2]
        have hset : ∀ e', e' = Sum.inr (ci, (sg_fs ad z.2.2.2 σ a).set j (.ref (ad b))) → (sg_wd q ad z.1 z.2.2.2 σ).set a (ad a, e') = sg_wd q ad z.1 (sg_lk z.2.2.2 a j) σ := by
          intro e' he'
          refine sg_wd_set ha ?_ (fun i _ hi => sg_et_row rfl (va_up_ne _ _ hi))
          rw [he', sg_et0 hk0, hag, sg_fs_set (lk' := sg_lk z.2.2.2 a j) (σ' := σ) (by rw [hag]; exact hj)]
          · simp only [sg_fv, hag, hrb, sg_lk, va_up_self, if_true, hbr]
          · exact fun i hi => ⟨rfl, by simp only [sg_lk, va_up_self, va_up_ne _ _ hi]⟩
        have hrf := sg_rfit (sg_rty hc hj hrb) (ad b)
        refine va_putF (D := D) (ty := sg_tT ci j) (v := .ref (ad b)) hx hb hts (sg_uws hc) (sg_tT ci) (sg_tys hc) (sg_nms hc) hown hK hP hD hS a he (sg_vw hc) j (by rw [sg_vn ci hc]; exact hj) (hts _ hw1) hsame (by rw [hfk.2.1]; exact hfb) (by rw [hmn]; exact hin) (by rw [hmo, hfk.1, hfk.2.2.2.2]) (sg_tys hc j (by rw [sg_vn ci hc]; exact hj)) hrf.1 hrf.2 (by rw [sg_fs_len, hag]; exact hj) hd (fun H1 locs1 hP1 hD1 hS1 => ?_)
        rw [hset _ rfl] at hP1 hD1
        refine K H1 locs1 ad arr ⟨hP1, hD1, hS1, hn, ?_, hn0, had⟩ hL hw hs.2.2
        intro k' j' hk' hl' hi'
        by_cases hq : k' = a ∧ j' = j
        · obtain ⟨rfl, rfl⟩ := hq
          rw [← hbr]
          exact hbn
        · refine hLI k' j' hk' ?_ hi'
          simp only [sg_lk] at hl'
          by_cases e : k' = a
          · subst e
            rw [va_up_self, va_up_ne _ _ (fun z => hq ⟨rfl, z⟩)] at hl'
            exact hl'
          · rw [va_up_ne _ _ e] at hl'
            exact hl'
      · cases h
    · cases h
  · cases h
theorem sg_p_baload (C : sg_Cx p R s m args meth c M A D q X ra)  (hd : decode (sg_mc M) pc = .ok (.baload, 1)) (h : sg_st X M (.baload) pc ls st z σ = some (.inl (pc', ls', st', z', σ'))) (K : sg_OK p l e R s m args below meth c M A D q ra n0 ad0 Q pc' ls' st' z' σ') : sg_OK p l e R s m args below meth c M A D q ra n0 ad0 Q pc ls st z σ := by
  obtain ⟨hx, hb, hml, hr, hown, hts, hnw, hK, hRO, hA, hlk, hmn, hfr, hlo⟩ := C
  simp only [sg_st] at h
  split at h
  · rename_i i a r
    split at h
    · rename_i hc0
      obtain ⟨ha, hk1, hi⟩ := hc0
      simp only [sg_nx, Option.some.injEq, Sum.inl.injEq, Prod.mk.injEq] at h
      obtain ⟨rfl, rfl, rfl, rfl, rfl⟩ := h
      intro H locs ad arr hI hL hw hs
      obtain ⟨hP, hD, hS, hn, hLI, hn0, had⟩ := hI
      have he := sg_wd_get (q := q) (ad := ad) (lk := z.2.2.2) (σ := σ) ha
      rw [sg_et2 hk1] at he
      have e1 : sg_vm ad ra (.ref a) = .ref (ad a) := sg_vm_ref hn ha
      simp only [sg_ws, List.all_cons, Bool.and_eq_true] at hs
      rw [List.map_cons, List.map_cons, e1]
      exact va_zald hx hb hK hP a 1 he rfl (sg_in_vp hi) hd (K H locs ad arr ⟨hP, hD, hS, hn, hLI, hn0, had⟩ hL hw (by simp only [sg_ws, List.all_cons, Bool.and_eq_true]; exact ⟨trivial, hs.2.2⟩))
    · cases h
  · cases h
theorem sg_p_iaload (C : sg_Cx p R s m args meth c M A D q X ra)  (hd : decode (sg_mc M) pc = .ok (.iaload, 1)) (h : sg_st X M (.iaload) pc ls st z σ = some (.inl (pc', ls', st', z', σ'))) (K : sg_OK p l e R s m args below meth c M A D q ra n0 ad0 Q pc' ls' st' z' σ') : sg_OK p l e R s m args below meth c M A D q ra n0 ad0 Q pc ls st z σ := by
  obtain ⟨hx, hb, hml, hr, hown, hts, hnw, hK, hRO, hA, hlk, hmn, hfr, hlo⟩ := C
  simp only [sg_st] at h
  split at h
  · rename_i i a r
    split at h
    · rename_i hro
      split at h
      · rename_i hc0
        simp only [sg_nx, Option.some.injEq, Sum.inl.injEq, Prod.mk.injEq] at h
        obtain ⟨rfl, rfl, rfl, rfl, rfl⟩ := h
        intro H locs ad arr hI hL hw hs
        obtain ⟨hP, hD, hS, hn, hLI, hn0, had⟩ := hI
        simp only [sg_ws, List.all_cons, Bool.and_eq_true] at hs
        have e1 : sg_vm ad ra (.ref a) = .ref (ra (a - 1000)) := by simp only [sg_vm]; rw [if_neg (Nat.not_lt.mpr hro)]
        rw [List.map_cons, List.map_cons, e1]
        obtain ⟨cell, t1, t2, t3, t4, t5, t6, t7⟩ := hRO.1 (a - 1000) (by have := hc0.1; exact Nat.sub_lt_left_of_lt_add hro this)
        have hlt : i.toNatClampNeg < (sg_ro X (a - 1000)).1 := Nat.not_le.mp fun q => sg_in_vp hc0.2 (Or.inr q)
        exact W.iald (v := .int ((sg_ro X (a - 1000)).2 i.toNatClampNeg)) hx hb (by rw [hS.2.1 _ (Array.getElem?_eq_some_iff.mp t1).1 t7]; exact t1) t2 t3 (by rw [t5]; exact sg_in_vp hc0.2) (t6 _ hlt) rfl rfl hd (K H locs ad arr ⟨hP, hD, hS, hn, hLI, hn0, had⟩ hL hw (by simp only [sg_ws, List.all_cons, Bool.and_eq_true]; exact ⟨trivial, hs.2.2⟩))
      · cases h
    · split at h
      · rename_i hc0
        obtain ⟨ha, hk1, hi⟩ := hc0
        simp only [sg_nx, Option.some.injEq, Sum.inl.injEq, Prod.mk.injEq] at h
        obtain ⟨rfl, rfl, rfl, rfl, rfl⟩ := h
        intro H locs ad arr hI hL hw hs
        obtain ⟨hP, hD, hS, hn, hLI, hn0, had⟩ := hI
        have he := sg_wd_get (q := q) (ad := ad) (lk := z.2.2.2) (σ := σ) ha
        rw [sg_et1 hk1] at he
        have e1 : sg_vm ad ra (.ref a) = .ref (ad a) := sg_vm_ref hn ha
        simp only [sg_ws, List.all_cons, Bool.and_eq_true] at hs
        rw [List.map_cons, List.map_cons, e1]
        exact va_iald hx hb hK hP a 0 he rfl (sg_in_vp hi) hd (K H locs ad arr ⟨hP, hD, hS, hn, hLI, hn0, had⟩ hL hw (by simp only [sg_ws, List.all_cons, Bool.and_eq_true]; exact ⟨trivial, hs.2.2⟩))
      · cases h
  · cases h
theorem sg_p_aaload (C : sg_Cx p R s m args meth c M A D q X ra)  (hd : decode (sg_mc M) pc = .ok (.aaload, 1)) (h : sg_st X M (.aaload) pc ls st z σ = some (.inl (pc', ls', st', z', σ'))) (K : sg_OK p l e R s m args below meth c M A D q ra n0 ad0 Q pc' ls' st' z' σ') : sg_OK p l e R s m args below meth c M A D q ra n0 ad0 Q pc ls st z σ := by
  obtain ⟨hx, hb, hml, hr, hown, hts, hnw, hK, hRO, hA, hlk, hmn, hfr, hlo⟩ := C
  simp only [sg_st] at h
  split at h
  · rename_i i a r
    split at h
    · rename_i hc0
      obtain ⟨ha, hk1, hi, hl1, hrn⟩ := hc0
      simp only [sg_nx, Option.some.injEq, Sum.inl.injEq, Prod.mk.injEq] at h
      obtain ⟨rfl, rfl, rfl, rfl, rfl⟩ := h
      intro H locs ad arr hI hL hw hs
      obtain ⟨hP, hD, hS, hn, hLI, hn0, had⟩ := hI
      have he := sg_wd_get (q := q) (ad := ad) (lk := z.2.2.2) (σ := σ) ha
      rw [sg_et3 hk1] at he
      have e1 : sg_vm ad ra (.ref a) = .ref (ad a) := sg_vm_ref hn ha
      have e2 : sg_vm ad ra (.ref (sg_rf a i.toNatClampNeg)) = .ref (ad (sg_rf a i.toNatClampNeg)) := sg_vm_ref hn hrn
      simp only [sg_ws, List.all_cons, Bool.and_eq_true] at hs
      rw [List.map_cons, List.map_cons, e1]
      have K1 := K H locs ad arr ⟨hP, hD, hS, hn, hLI, hn0, had⟩ hL hw (by simp only [sg_ws, List.all_cons, Bool.and_eq_true]; exact ⟨by simp [sg_wv, hrn], hs.2.2⟩)
      rw [List.map_cons, e2] at K1
      have hlt : i.toNatClampNeg < sg_ag a := Nat.not_le.mp fun q => sg_in_vp hi (Or.inr q)
      refine va_aldq hx hb hK hP a 2 he rfl (sg_in_vp hi) hd ?_
      simp only [sg_ra, hlt, hl1, and_self, if_true, va_rf]
      exact K1
    · cases h
  · cases h
theorem sg_p_iastore (C : sg_Cx p R s m args meth c M A D q X ra)  (hd : decode (sg_mc M) pc = .ok (.iastore, 1)) (h : sg_st X M (.iastore) pc ls st z σ = some (.inl (pc', ls', st', z', σ'))) (K : sg_OK p l e R s m args below meth c M A D q ra n0 ad0 Q pc' ls' st' z' σ') : sg_OK p l e R s m args below meth c M A D q ra n0 ad0 Q pc ls st z σ := by
  obtain ⟨hx, hb, hml, hr, hown, hts, hnw, hK, hRO, hA, hlk, hmn, hfr, hlo⟩ := C
  simp only [sg_st] at h
  split at h
  · rename_i v i a r
    split at h
    · rename_i hc0
      obtain ⟨ha, hk1, hi⟩ := hc0
      simp only [sg_nx, Option.some.injEq, Sum.inl.injEq, Prod.mk.injEq] at h
      obtain ⟨rfl, rfl, rfl, rfl, rfl⟩ := h
      intro H locs ad arr hI hL hw hs
      obtain ⟨hP, hD, hS, hn, hLI, hn0, had⟩ := hI
      have he := sg_wd_get (q := q) (ad := ad) (lk := z.2.2.2) (σ := σ) ha
      rw [sg_et1 hk1] at he
      have e1 : sg_vm ad ra (.ref a) = .ref (ad a) := sg_vm_ref hn ha
      simp only [sg_ws, List.all_cons, Bool.and_eq_true] at hs
      rw [List.map_cons, List.map_cons, List.map_cons, e1]
      refine va_iast hx hb hK hP hD hS a 0 he rfl (sg_in_vp hi) hd (fun H1 locs1 hP1 hD1 hS1 => ?_)
      skip
      have hset := sg_wd_set (q := q) (ad := ad) (lk := z.2.2.2) (lk' := z.2.2.2) (σ := σ) (σ' := sg_up σ a i.toNatClampNeg v) ha (e := .inl (q.1, sg_ag a, .inl (upd (σ a) i.toNatClampNeg v))) (by rw [sg_et1 hk1, sg_up_self]; rfl) (fun i _ hi => sg_et_row (sg_up_row hi) rfl)
      rw [hset] at hP1 hD1
      exact K H1 locs1 ad arr ⟨hP1, hD1, hS1, hn, hLI, hn0, had⟩ hL hw hs.2.2.2
    · cases h
  · cases h
theorem sg_p_bastore (C : sg_Cx p R s m args meth c M A D q X ra)  (hd : decode (sg_mc M) pc = .ok (.bastore, 1)) (h : sg_st X M (.bastore) pc ls st z σ = some (.inl (pc', ls', st', z', σ'))) (K : sg_OK p l e R s m args below meth c M A D q ra n0 ad0 Q pc' ls' st' z' σ') : sg_OK p l e R s m args below meth c M A D q ra n0 ad0 Q pc ls st z σ := by
  obtain ⟨hx, hb, hml, hr, hown, hts, hnw, hK, hRO, hA, hlk, hmn, hfr, hlo⟩ := C
  simp only [sg_st] at h
  split at h
  · rename_i v i a r
    split at h
    · rename_i hc0
      obtain ⟨ha, hk1, hi, hv01⟩ := hc0
      simp only [sg_nx, Option.some.injEq, Sum.inl.injEq, Prod.mk.injEq] at h
      obtain ⟨rfl, rfl, rfl, rfl, rfl⟩ := h
      intro H locs ad arr hI hL hw hs
      obtain ⟨hP, hD, hS, hn, hLI, hn0, had⟩ := hI
      have he := sg_wd_get (q := q) (ad := ad) (lk := z.2.2.2) (σ := σ) ha
      rw [sg_et2 hk1] at he
      have e1 : sg_vm ad ra (.ref a) = .ref (ad a) := sg_vm_ref hn ha
      simp only [sg_ws, List.all_cons, Bool.and_eq_true] at hs
      rw [List.map_cons, List.map_cons, List.map_cons, e1]
      refine va_zast hx hb hK hP hD hS a 1 he rfl (sg_in_vp hi) hd (fun H1 locs1 hP1 hD1 hS1 => ?_)
      have hnar : vp_nar .boolean v = v := by rcases hv01 with rfl | rfl <;> decide
      rw [hnar] at hP1 hD1
      have hset := sg_wd_set (q := q) (ad := ad) (lk := z.2.2.2) (lk' := z.2.2.2) (σ := σ) (σ' := sg_up σ a i.toNatClampNeg v) ha (e := .inl (q.2.1, sg_ag a, .inl (upd (σ a) i.toNatClampNeg v))) (by rw [sg_et2 hk1, sg_up_self]; rfl) (fun i _ hi => sg_et_row (sg_up_row hi) rfl)
      rw [hset] at hP1 hD1
      exact K H1 locs1 ad arr ⟨hP1, hD1, hS1, hn, hLI, hn0, had⟩ hL hw hs.2.2.2
    · cases h
  · cases h
theorem sg_p_aastore (C : sg_Cx p R s m args meth c M A D q X ra)  (hd : decode (sg_mc M) pc = .ok (.aastore, 1)) (h : sg_st X M (.aastore) pc ls st z σ = some (.inl (pc', ls', st', z', σ'))) (K : sg_OK p l e R s m args below meth c M A D q ra n0 ad0 Q pc' ls' st' z' σ') : sg_OK p l e R s m args below meth c M A D q ra n0 ad0 Q pc ls st z σ := by
  obtain ⟨hx, hb, hml, hr, hown, hts, hnw, hK, hRO, hA, hlk, hmn, hfr, hlo⟩ := C
  simp only [sg_st] at h
  split at h
  · rename_i b i a r
    split at h
    · rename_i hc0
      obtain ⟨ha, hk1, hi, hbr, hbn, hbk, hbg⟩ := hc0
      simp only [sg_nx, Option.some.injEq, Sum.inl.injEq, Prod.mk.injEq] at h
      obtain ⟨rfl, rfl, rfl, rfl, rfl⟩ := h
      intro H locs ad arr hI hL hw hs
      obtain ⟨hP, hD, hS, hn, hLI, hn0, had⟩ := hI
      have he := sg_wd_get (q := q) (ad := ad) (lk := z.2.2.2) (σ := σ) ha
      rw [sg_et3 hk1] at he
      have hv := sg_wd_get (q := q) (ad := ad) (lk := z.2.2.2) (σ := σ) hbn
      rw [sg_et0 hbk, hbg] at hv
      have e1 : sg_vm ad ra (.ref a) = .ref (ad a) := sg_vm_ref hn ha
      have e2 : sg_vm ad ra (.ref b) = .ref (ad b) := sg_vm_ref hn hbn
      simp only [sg_ws, List.all_cons, Bool.and_eq_true] at hs
      rw [List.map_cons, List.map_cons, List.map_cons, e1, e2]
      have hlt : i.toNatClampNeg < sg_ag a := Nat.not_le.mp fun q => sg_in_vp hi (Or.inr q)
      refine va_astq (r := (RX2, TX2, 9)) hx hb hK hP hD hS a 2 b 2 he rfl hv rfl (sg_in_vp hi) hd (fun H1 locs1 hP1 hD1 hS1 => ?_)
      have hset := sg_wd_set (q := q) (ad := ad) (lk := z.2.2.2) (lk' := sg_lk z.2.2.2 a i.toNatClampNeg) (σ := σ) (σ' := σ) ha (e := .inl (q.2.2, sg_ag a, .inr (.inr (.inr (.inr (va_up (sg_ra ad z.2.2.2 a) i.toNatClampNeg (some (ad b)))))))) (by
        rw [sg_et3 hk1]
        have : va_up (sg_ra ad z.2.2.2 a) i.toNatClampNeg (some (ad b)) = sg_ra ad (sg_lk z.2.2.2 a i.toNatClampNeg) a := by
          funext j
          by_cases e : j = i.toNatClampNeg
          · subst e
            rw [va_up_self]
            simp only [sg_ra, sg_lk, va_up_self, hlt, and_self, if_true, hbr]
          · rw [va_up_ne _ _ e]
            simp only [sg_ra, sg_lk, va_up_self, va_up_ne _ _ e]
        rw [this]) (fun i _ hi => sg_et_row rfl (va_up_ne _ _ hi))
      rw [hset] at hP1 hD1
      refine K H1 locs1 ad arr ⟨hP1, hD1, hS1, hn, ?_, hn0, had⟩ hL hw hs.2.2.2
      intro k' j' hk' hl' hi'
      by_cases hq : k' = a ∧ j' = i.toNatClampNeg
      · obtain ⟨rfl, rfl⟩ := hq
        rw [← hbr]
        exact hbn
      · refine hLI k' j' hk' ?_ hi'
        simp only [sg_lk] at hl'
        by_cases e : k' = a
        · subst e
          rw [va_up_self, va_up_ne _ _ (fun z => hq ⟨rfl, z⟩)] at hl'
          exact hl'
        · rw [va_up_ne _ _ e] at hl'
          exact hl'
    · cases h
  · cases h
theorem sg_p_arraylength (C : sg_Cx p R s m args meth c M A D q X ra)  (hd : decode (sg_mc M) pc = .ok (.arraylength, 1)) (h : sg_st X M (.arraylength) pc ls st z σ = some (.inl (pc', ls', st', z', σ'))) (K : sg_OK p l e R s m args below meth c M A D q ra n0 ad0 Q pc' ls' st' z' σ') : sg_OK p l e R s m args below meth c M A D q ra n0 ad0 Q pc ls st z σ := by
  obtain ⟨hx, hb, hml, hr, hown, hts, hnw, hK, hRO, hA, hlk, hmn, hfr, hlo⟩ := C
  simp only [sg_st] at h
  split at h
  · rename_i a r
    split at h
    · rename_i hro
      split at h
      · rename_i hc0
        simp only [sg_nx, Option.some.injEq, Sum.inl.injEq, Prod.mk.injEq] at h
        obtain ⟨rfl, rfl, rfl, rfl, rfl⟩ := h
        intro H locs ad arr hI hL hw hs
        obtain ⟨hP, hD, hS, hn, hLI, hn0, had⟩ := hI
        simp only [sg_ws, List.all_cons, Bool.and_eq_true] at hs
        have e1 : sg_vm ad ra (.ref a) = .ref (ra (a - 1000)) := by simp only [sg_vm]; rw [if_neg (Nat.not_lt.mpr hro)]
        rw [List.map_cons, e1]
        obtain ⟨cell, t1, t2, t3, t4, t5, t6, t7⟩ := hRO.1 (a - 1000) (Nat.sub_lt_left_of_lt_add hro hc0)
        exact W.alen hx hb (by rw [hS.2.1 _ (Array.getElem?_eq_some_iff.mp t1).1 t7]; exact t1) t2 (by rw [t5]) rfl rfl hd (K H locs ad arr ⟨hP, hD, hS, hn, hLI, hn0, had⟩ hL hw (by simp only [sg_ws, List.all_cons, Bool.and_eq_true]; exact ⟨trivial, hs.2⟩))
      · cases h
    · split at h
      · rename_i hc0
        obtain ⟨ha, hk1⟩ := hc0
        simp only [sg_nx, Option.some.injEq, Sum.inl.injEq, Prod.mk.injEq] at h
        obtain ⟨rfl, rfl, rfl, rfl, rfl⟩ := h
        intro H locs ad arr hI hL hw hs
        obtain ⟨hP, hD, hS, hn, hLI, hn0, had⟩ := hI
        have he := sg_wd_get (q := q) (ad := ad) (lk := z.2.2.2) (σ := σ) ha
        rw [sg_et1 hk1] at he
        have e1 : sg_vm ad ra (.ref a) = .ref (ad a) := sg_vm_ref hn ha
        simp only [sg_ws, List.all_cons, Bool.and_eq_true] at hs
        rw [List.map_cons, e1]
        exact va_alen hx hb hK hP a 0 he (ty := .int) rfl rfl hd (K H locs ad arr ⟨hP, hD, hS, hn, hLI, hn0, had⟩ hL hw (by simp only [sg_ws, List.all_cons, Bool.and_eq_true]; exact ⟨trivial, hs.2⟩))
      · cases h
  · cases h
end SGH
end
section
theorem sg_arrI {D : va_G} {q : sg_Ci} {s : State} (hK : va_K D vwCl [(q.1, .int), (q.2.1, .boolean), (q.2.2, .object RX2)] s) : s.vm.findClass "[I" = some q.1 := va_nm_int (hK.2 0 _ rfl).2
theorem sg_gl_ok {o i k p n : Nat} (h : sg_gl o i = some (k, p, n)) (hk : k < 3) : (Cond.fieldLink (sg_cn o) i RX9 (sg_Rn k) "[I" ∈ sg_gw) ∨ (Cond.fieldLinkNest (sg_cn o) i RX9 (sg_Rn k) "[I" RX9 ∈ sg_nw) := by
  unfold sg_gl at h
  cases hf : sg_GT.find? (fun e => e.1 == o && e.2.1 == i) with
  | none => rw [hf] at h; cases h
  | some e =>
    rw [hf] at h
    have hm := List.mem_of_find?_eq_some hf
    have he := List.find?_some hf
    simp only [Bool.and_eq_true, beq_iff_eq] at he
    obtain ⟨e1, e2, e3, e4, e5⟩ := e
    cases h
    obtain ⟨rfl, rfl⟩ := he
    simp only [sg_GT, List.mem_cons, List.not_mem_nil, or_false, Prod.mk.injEq] at hm
    rcases hm with ⟨rfl, rfl, rfl, rfl, rfl⟩ | ⟨rfl, rfl, rfl, rfl, rfl⟩ | ⟨rfl, rfl, rfl, rfl, rfl⟩
    · exact Or.inl (sg_ck_mem sg_gw0.1)
    · exact Or.inl (sg_ck_mem sg_gw0.2)
    · exact Or.inr (by decide +kernel)
theorem sg_nf_out {ad : Nat → Nat} {lk : Nat → Nat → Bool} {σ : sg_S} {k c : Nat} (hag : sg_ag k = c) (h : (List.range (sg_nf c)).all (fun j => !(sg_rb c j) || !(lk k j)) = true) (hz : σ k = fun _ => 0) : sg_fs ad lk σ k = (List.range (sg_nf c)).map (fun j => if sg_rb c j = true then .null else .int 0) := by
  unfold sg_fs
  rw [hag]
  apply List.map_congr_left
  intro j hj
  have := List.all_eq_true.mp h j hj
  simp only [Bool.or_eq_true, Bool.not_eq_true'] at this
  unfold sg_fv
  rw [hag, hz]
  rcases this with h1 | h1
  · rw [if_neg (by rw [h1]; decide), if_neg (by rw [h1]; decide)]
  · rw [h1]
    rfl
/-- a cell more -/
theorem sg_In_new {s : State} {A : Nat → Prop} {D : va_G} {q : sg_Ci} {n0 n kc ks kc' ks' : Nat} {ad0 ad : Nat → Nat} {lk : Nat → Nat → Bool} {σ σ' : sg_S} {H : Heap} {locs : List Loc} {H1 : Heap} {a : Nat} {e : va_E}
    (hI : sg_In s A D q n0 ad0 ad (n, kc, ks, lk) σ H locs) (hn : n < 1000) (hr : ∀ k, k < n → σ' k = σ k) (hl : ∀ j, sg_is n j = true → lk n j = false) (he : sg_et q (va_up ad n a) lk σ' n = e)
    (hP1 : va_P D vwCl (sg_wd q ad n lk σ ++ [(a, e)]) H1) (hD1 : va_D A (sg_wd q ad n lk σ ++ [(a, e)])) (hS1 : va_S A s.heap H1 locs) : sg_In s A D q n0 ad0 (va_up ad n a) (n + 1, kc', ks', lk) σ' H1 locs ∧ ∀ j, j < n → va_up ad n a j = ad j := by
  obtain ⟨hP, hD, hS, hn1, hLI, hn0, had⟩ := hI
  have hj : ∀ j, j < n → va_up ad n a j = ad j := fun j hj => va_up_ne _ _ (by omega)
  have hpush := sg_wd_push (q := q) (ad := ad) (ad' := va_up ad n a) (n := n) (lk := lk) (σ := σ) (σ' := σ') (va_up_self _ _ _) he (fun j h => ⟨hj j h, by rw [sg_et_ad hLI hj h]; exact sg_et_row (hr j h) rfl⟩)
  rw [hpush] at hP1 hD1
  have hn0' : n0 ≤ n := hn0
  exact ⟨⟨hP1, hD1, hS1, hn, sg_LI_new hLI hl, by show n0 ≤ n + 1; omega, fun k hk => by rw [hj k (by omega)]; exact had k hk⟩, hj⟩
section SGN
variable {p : Program} {l : Launch} {e : Env} {R : Room} {s : State} {m : MethodId} {args : Array Value} {below : List Frame} {meth : Method} {c : Code} {M : Nat} {A : Nat → Prop} {D : va_G} {q : sg_Ci} {X : sg_X} {ra : Nat → Nat} {n0 : Nat} {ad0 : Nat → Nat} {Q : State → Prop}
variable {pc pc' : Nat} {ls ls' : sg_L} {st st' : List Value} {z z' : sg_Z} {σ σ' : sg_S}
theorem sg_p_getstatic (C : sg_Cx p R s m args meth c M A D q X ra) {k : Nat} (hd : decode (sg_mc M) pc = .ok (.getstatic k, 3)) (h : sg_st X M (.getstatic k) pc ls st z σ = some (.inl (pc', ls', st', z', σ'))) (K : sg_OK p l e R s m args below meth c M A D q ra n0 ad0 Q pc' ls' st' z' σ') : sg_OK p l e R s m args below meth c M A D q ra n0 ad0 Q pc ls st z σ := by
  obtain ⟨hx, hb, hml, hr, hown, hts, hnw, hK, hRO, hA, hlk, hmn, hfr, hlo⟩ := C
  simp only [sg_st] at h
  split at h
  · rename_i i2 rest2 hg
    obtain ⟨pl, nn⟩ := rest2
    split at h
    · rename_i hk3
      simp only [sg_nx, Option.some.injEq, Sum.inl.injEq, Prod.mk.injEq] at h
      obtain ⟨rfl, rfl, rfl, rfl, rfl⟩ := h
      intro H locs ad arr hI hL hw hs
      obtain ⟨hP, hD, hS, hn, hLI, hn0, had⟩ := id hI
      have e1 : sg_vm ad ra (.ref (1000 + i2)) = .ref (ra i2) := by
        simp only [sg_vm]
        rw [if_neg (Nat.not_lt.mpr (Nat.le_add_right 1000 i2)), Nat.add_sub_cancel_left]
      have K1 := K H locs ad arr hI hL hw (by simp only [sg_ws, List.all_cons, Bool.and_eq_true]; exact ⟨by simp [sg_wv], hs⟩)
      rw [List.map_cons, e1] at K1
      rcases sg_gl_ok hg hk3 with hw1 | hw1
      · exact va_gets hx hb (hRO.2.1 i2 hk3) hS hown (hts _ hw1) (fun _ h => h) hd K1
      · exact va_getsN hx hb (hRO.2.1 i2 hk3) hS hown (va_Nw.use rfl (hnw _ hw1)) (fun _ h => h) hd K1
    · cases h
  · cases h
theorem sg_p_new (C : sg_Cx p R s m args meth c M A D q X ra) {k : Nat} (hd : decode (sg_mc M) pc = .ok (.new k, 3)) (h : sg_st X M (.new k) pc ls st z σ = some (.inl (pc', ls', st', z', σ'))) (hz : z'.2.1 ≤ R.cells ∧ z'.2.2.1 ≤ R.slots) (K : sg_OK p l e R s m args below meth c M A D q ra n0 ad0 Q pc' ls' st' z' σ') : sg_OK p l e R s m args below meth c M A D q ra n0 ad0 Q pc ls st z σ := by
  obtain ⟨hx, hb, hml, hr, hown, hts, hnw, hK, hRO, hA, hlk, hmn, hfr, hlo⟩ := C
  simp only [sg_st] at h
  split at h
  · rename_i ci pl hf
    obtain ⟨hw1, hc⟩ := sg_nl_ok (sg_mo_lt M) hf
    split at h
    · rename_i hc0
      obtain ⟨hlt, hk0, hag, hall⟩ := hc0
      simp only [sg_nx, Option.some.injEq, Sum.inl.injEq, Prod.mk.injEq] at h
      obtain ⟨rfl, rfl, rfl, rfl, rfl⟩ := h
      obtain ⟨n, kc, ks, lk⟩ := z
      dsimp only at hlt hk0 hag hall hz K ⊢
      intro H locs ad arr hI hL hw hs
      obtain ⟨hP, hD, hS, hn, hLI, hn0, had⟩ := id hI
      have hiw := sg_iw ci hc
      have hfs : ∀ j, j < (sg_cT ci).2.2 → defaultValue (sg_tT ci j) = vp_V ((List.range (sg_nf ci)).map (fun j => if sg_rb ci j = true then .null else .int 0)) j := by
        intro j hj
        rw [sg_vn ci hc] at hj
        have hfk := sg_fk ci hc j hj
        simp only [vp_V, List.getD_eq_getElem?_getD, List.getElem?_map, List.getElem?_range hj, Option.map_some, Option.getD_some]
        by_cases hrb : sg_rb ci j = true
        · rw [if_pos hrb, hfk.2.2.2.1 hrb]
        · rw [if_neg hrb, hfk.2.2.1 (by simpa using hrb)]
          rfl
      refine va_new hx hb hts (sg_uws hc) (sg_tT ci) (sg_tys hc) hown (hts _ hw1) (hts _ (sg_ck_mem hiw.1)) (hts _ (sg_ck_mem hiw.2)) hK hP hD hS hA (sg_vw hc) hfs hz.1 (by rw [sg_vn ci hc]; exact hz.2) hd (fun a H1 hP1 hD1 hS1 => ?_)
      rw [sg_vn ci hc]
      obtain ⟨hI1, hj⟩ := sg_In_new (kc' := kc + 1) (ks' := ks + sg_nf ci) (σ' := va_up σ n (fun _ => 0)) hI hlt (fun k hk => va_up_ne _ _ (by omega)) (fun j hi => by
        rw [sg_is0 hk0, hag] at hi
        have := List.all_eq_true.mp hall j (List.mem_range.mpr (sg_rb_nf hi))
        rw [hi] at this
        simpa using this) (by rw [sg_et0 hk0, hag, sg_nf_out hag hall (va_up_self _ _ _)]) hP1 hD1 hS1
      have K1 := K H1 locs (va_up ad n a) arr hI1 (sg_LH_ad (by omega) hj hw hL) (sg_wl_le (Nat.le_succ n) hw) (by simp only [sg_ws, List.all_cons, Bool.and_eq_true]; exact ⟨by simp [sg_wv], sg_ws_le (Nat.le_succ n) hs⟩)
      rw [List.map_cons, sg_map_ad (by omega) hj hs, sg_vm_ref (n := n + 1) (by omega) (by omega), va_up_self] at K1
      exact K1
    · cases h
  · cases h
theorem sg_p_newarray (C : sg_Cx p R s m args meth c M A D q X ra) {t : ArrayType} (hd : decode (sg_mc M) pc = .ok (.newarray t, 2)) (h : sg_st X M (.newarray t) pc ls st z σ = some (.inl (pc', ls', st', z', σ'))) (hz : z'.2.1 ≤ R.cells ∧ z'.2.2.1 ≤ R.slots) (K : sg_OK p l e R s m args below meth c M A D q ra n0 ad0 Q pc' ls' st' z' σ') : sg_OK p l e R s m args below meth c M A D q ra n0 ad0 Q pc ls st z σ := by
  obtain ⟨hx, hb, hml, hr, hown, hts, hnw, hK, hRO, hA, hlk, hmn, hfr, hlo⟩ := C
  simp only [sg_st] at h
  split at h
  · rename_i cnt r
    split at h
    · rename_i hc0
      obtain ⟨hlt, ht, hc1, hc2, hc3⟩ := hc0
      simp only [sg_nx, Option.some.injEq, Sum.inl.injEq, Prod.mk.injEq] at h
      obtain ⟨rfl, rfl, rfl, rfl, rfl⟩ := h
      obtain ⟨n, kc, ks, lk⟩ := z
      dsimp only at hlt ht hc1 hc2 hc3 hz K ⊢
      intro H locs ad arr hI hL hw hs
      obtain ⟨hP, hD, hS, hn, hLI, hn0, had⟩ := id hI
      have hNt : cnt.toNatClampNeg = sg_ag n := by have := sg_cl hc1; omega
      simp only [sg_ws, List.all_cons, Bool.and_eq_true] at hs
      have hfin : ∀ (a : Nat) (H1 : Heap) (x : va_E), (∀ ad', sg_et q ad' lk (va_up σ n (fun _ => 0)) n = x) → (∀ j, sg_is n j = true → lk n j = false) → va_P D vwCl (sg_wd q ad n lk σ ++ [(a, x)]) H1 → va_D A (sg_wd q ad n lk σ ++ [(a, x)]) → va_S A s.heap H1 locs → W p l e R s m args below meth c H1 locs (kc + 1) (ks + sg_ag n) Q (F0 m (pc + 2) arr (.ref a :: r.map (sg_vm ad ra))) := by
        intro a H1 x hx1 hi1 hP1 hD1 hS1
        obtain ⟨hI1, hj⟩ := sg_In_new (kc' := kc + 1) (ks' := ks + sg_ag n) (σ' := va_up σ n (fun _ => 0)) hI hlt (fun k hk => va_up_ne _ _ (by omega)) hi1 (hx1 _) hP1 hD1 hS1
        have K1 := K H1 locs (va_up ad n a) arr hI1 (sg_LH_ad (by omega) hj hw hL) (sg_wl_le (Nat.le_succ n) hw) (by simp only [sg_ws, List.all_cons, Bool.and_eq_true]; exact ⟨by simp [sg_wv], sg_ws_le (Nat.le_succ n) hs.2⟩)
        rw [List.map_cons, sg_map_ad (by omega) hj hs.2, sg_vm_ref (n := n + 1) (by omega) (by omega), va_up_self] at K1
        exact K1
      rcases ht with ⟨rfl, hk1⟩ | ⟨rfl, hk1⟩
      · refine va_newa (ty := .int) (a0 := (sg_ag n, .inl (fun _ => 0))) hx hb (hts _ (sg_ck_mem sg_arw.1)) rfl hK hP hD hS hA (fun cA => rfl) (sg_nn hc1) hNt (by show _ * 4 ≤ _; omega) hz.1 hz.2 hd (fun a cA H1 hK1 hP1 hD1 hS1 => ?_)
        have hcA : cA = q.1 := by
          have h1 := va_nm_int (hK1.2 3 (cA, .int) rfl).2
          rw [sg_arrI hK] at h1
          exact (Option.some.inj h1).symm
        subst hcA
        exact hfin a H1 _ (fun ad' => by rw [sg_et1 hk1, va_up_self]) (fun j hi => by rw [sg_is1 (Or.inl hk1)] at hi; cases hi) hP1 hD1 hS1
      · refine va_newa (ty := .boolean) (a0 := (sg_ag n, .inl (fun _ => 0))) hx hb (hts _ (sg_ck_mem sg_arw.2)) rfl hK hP hD hS hA (fun cA => rfl) (sg_nn hc1) hNt (by show _ * 1 ≤ _; omega) hz.1 hz.2 hd (fun a cA H1 hK1 hP1 hD1 hS1 => ?_)
        have hcA : cA = q.2.1 := by
          have h1 := va_nm_boolean (hK1.2 3 (cA, .boolean) rfl).2
          rw [va_nm_boolean (hK.2 1 _ rfl).2] at h1
          exact (Option.some.inj h1).symm
        subst hcA
        exact hfin a H1 _ (fun ad' => by rw [sg_et2 hk1, va_up_self]) (fun j hi => by rw [sg_is1 (Or.inr hk1)] at hi; cases hi) hP1 hD1 hS1
    · cases h
  · cases h
theorem sg_p_anewarray (C : sg_Cx p R s m args meth c M A D q X ra) {k : Nat} (hd : decode (sg_mc M) pc = .ok (.anewarray k, 3)) (h : sg_st X M (.anewarray k) pc ls st z σ = some (.inl (pc', ls', st', z', σ'))) (hz : z'.2.1 ≤ R.cells ∧ z'.2.2.1 ≤ R.slots) (K : sg_OK p l e R s m args below meth c M A D q ra n0 ad0 Q pc' ls' st' z' σ') : sg_OK p l e R s m args below meth c M A D q ra n0 ad0 Q pc ls st z σ := by
  obtain ⟨hx, hb, hml, hr, hown, hts, hnw, hK, hRO, hA, hlk, hmn, hfr, hlo⟩ := C
  simp only [sg_st] at h
  split at h
  · rename_i cnt r
    split at h
    · rename_i ci pl hf
      obtain ⟨hw1, hc⟩ := sg_nl_ok (sg_mo_lt M) hf
      split at h
      · rename_i hc0
        obtain ⟨hlt, rfl, hk3, hc1, hc2, hc3, hall⟩ := hc0
        simp only [sg_nx, Option.some.injEq, Sum.inl.injEq, Prod.mk.injEq] at h
        obtain ⟨rfl, rfl, rfl, rfl, rfl⟩ := h
        obtain ⟨n, kc, ks, lk⟩ := z
        dsimp only at hlt hk3 hc1 hc2 hc3 hall hz K ⊢
        intro H locs ad arr hI hL hw hs
        obtain ⟨hP, hD, hS, hn, hLI, hn0, had⟩ := id hI
        have hNt : cnt.toNatClampNeg = sg_ag n := by have := sg_cl hc1; omega
        simp only [sg_ws, List.all_cons, Bool.and_eq_true] at hs
        refine va_newq (C := RX2) hx hb hown (hts _ hw1) (hnw _ (by decide +kernel)) hK hP hD hS hA (sg_nn hc1) hNt (by omega) hz.1 hz.2 hd (fun a cA H1 hK1 hP1 hD1 hS1 => ?_)
        have hcA : cA = q.2.2 := by
          obtain ⟨_, _, _, _, _, h1⟩ := (hK1.2 3 (cA, .object RX2) rfl).2
          obtain ⟨_, _, _, _, _, h2⟩ := (hK.2 2 _ rfl).2
          rw [h2] at h1
          exact (Option.some.inj h1).symm
        subst hcA
        have hlf : ∀ j, j < sg_ag n → lk n j = false := fun j hj => by simpa using List.all_eq_true.mp hall j (List.mem_range.mpr hj)
        obtain ⟨hI1, hj⟩ := sg_In_new (kc' := kc + 1) (ks' := ks + sg_ag n) (σ' := σ) hI hlt (fun k hk => rfl) (fun j hi => by
          rw [sg_is3 hk3] at hi
          exact hlf j (of_decide_eq_true hi)) (by
            rw [sg_et3 hk3]
            have : sg_ra (va_up ad n a) lk n = fun _ => none := by
              funext j
              unfold sg_ra
              rw [if_neg (fun hh => by rw [hlf j hh.1] at hh; cases hh.2)]
            rw [this]) hP1 hD1 hS1
        have K1 := K H1 locs (va_up ad n a) arr hI1 (sg_LH_ad (by omega) hj hw hL) (sg_wl_le (Nat.le_succ n) hw) (by simp only [sg_ws, List.all_cons, Bool.and_eq_true]; exact ⟨by simp [sg_wv], sg_ws_le (Nat.le_succ n) hs.2⟩)
        rw [List.map_cons, sg_map_ad (by omega) hj hs.2, sg_vm_ref (n := n + 1) (by omega) (by omega), va_up_self] at K1
        exact K1
      · cases h
    · cases h
  · cases h
theorem sg_p_checkcast (C : sg_Cx p R s m args meth c M A D q X ra) {k : Nat} (hd : decode (sg_mc M) pc = .ok (.checkcast k, 3)) (h : sg_st X M (.checkcast k) pc ls st z σ = some (.inl (pc', ls', st', z', σ'))) (K : sg_OK p l e R s m args below meth c M A D q ra n0 ad0 Q pc' ls' st' z' σ') : sg_OK p l e R s m args below meth c M A D q ra n0 ad0 Q pc ls st z σ := by
  obtain ⟨hx, hb, hml, hr, hown, hts, hnw, hK, hRO, hA, hlk, hmn, hfr, hlo⟩ := C
  simp only [sg_st] at h
  split at h
  · rename_i a r
    split at h
    · rename_i hc0
      obtain ⟨hmo, rfl, ha, hk1⟩ := hc0
      simp only [sg_nx, Option.some.injEq, Sum.inl.injEq, Prod.mk.injEq] at h
      obtain ⟨rfl, rfl, rfl, rfl, rfl⟩ := h
      intro H locs ad arr hI hL hw hs
      obtain ⟨hP, hD, hS, hn, hLI, hn0, had⟩ := id hI
      have he := sg_wd_get (q := q) (ad := ad) (lk := z.2.2.2) (σ := σ) ha
      rw [sg_et1 hk1] at he
      have e1 : sg_vm ad ra (.ref a) = .ref (ad a) := sg_vm_ref hn ha
      have K1 := K H locs ad arr hI hL hw hs
      rw [List.map_cons, e1] at K1 ⊢
      exact va_castA hx hb hown (by rw [hmo]; exact hts _ (sg_ck_mem sg_clw.2.2.2.2)) hP a he (sg_arrI hK) hd K1
    · cases h
  · cases h
theorem sg_p_invokestatic (C : sg_Cx p R s m args meth c M A D q X ra) {k : Nat} (hd : decode (sg_mc M) pc = .ok (.invokestatic k, 3)) (h : sg_st X M (.invokestatic k) pc ls st z σ = some (.inl (pc', ls', st', z', σ'))) (K : sg_OK p l e R s m args below meth c M A D q ra n0 ad0 Q pc' ls' st' z' σ') : sg_OK p l e R s m args below meth c M A D q ra n0 ad0 Q pc ls st z σ := by
  obtain ⟨hx, hb, hml, hr, hown, hts, hnw, hK, hRO, hA, hlk, hmn, hfr, hlo⟩ := C
  simp only [sg_st] at h
  split at h
  · rename_i y1 y2 hf
    have hkk := sg_kl_ok hf
    simp only [sg_kck] at hkk
    split at h
    · rename_i cnt dp d sp s0 r
      split at h
      · rename_i hc0
        obtain ⟨hs0, hd0, hk1, hk2, h1, h2, h3, h4, h5, h6, h7, h8⟩ := hc0
        simp only [sg_nx, Option.some.injEq, Sum.inl.injEq, Prod.mk.injEq] at h
        obtain ⟨rfl, rfl, rfl, rfl, rfl⟩ := h
        intro H locs ad arr hI hL hw hs
        obtain ⟨hP, hD, hS, hn, hLI, hn0, had⟩ := id hI
        have he0 := sg_wd_get (q := q) (ad := ad) (lk := z.2.2.2) (σ := σ) hs0
        rw [sg_et1 hk1] at he0
        have he1 := sg_wd_get (q := q) (ad := ad) (lk := z.2.2.2) (σ := σ) hd0
        rw [sg_et1 hk2] at he1
        have e1 : sg_vm ad ra (.ref s0) = .ref (ad s0) := sg_vm_ref hn hs0
        have e2 : sg_vm ad ra (.ref d) = .ref (ad d) := sg_vm_ref hn hd0
        have c1 := sg_cl h1
        have c2 := sg_cl h2
        have c3 := sg_cl h3
        simp only [sg_ws, List.all_cons, Bool.and_eq_true] at hs
        simp only [List.map_cons, e1, e2]
        have hwd : ((r.map (sg_vm ad ra)).map fun v => v.category).sum ≤ 8 := by
          rw [List.map_map]
          have : ((fun v : Value => v.category) ∘ sg_vm ad ra) = fun v => v.category := by funext v; exact sg_vm_cat ad ra v
          rw [this]
          exact h6
        refine va_copyi (ty := .int) hx hb (by rw [hml]; exact hL.1.symm) hown (hts _ (sg_ck_mem hkk)) (hts _ (sg_ck_mem sg_acw.1)) (hts _ (sg_ck_mem sg_acw.2.1)) (hts _ (sg_ck_mem sg_acw.2.2)) hK hP hD hS s0 d 0 0 he0 he1 rfl rfl rfl (sg_nn h1) (sg_nn h2) (sg_nn h3) (by omega) (by omega) (fun i _ => rfl) (Nat.le_trans h7 hfr) (by
          have : nativeFrameWords "java/lang/System" "arraycopy" 5 = 7 := by decide +kernel
          rw [this]
          omega) hd (fun H1 locs1 hP1 hD1 hS1 => ?_)
        have hset := sg_wd_set (q := q) (ad := ad) (lk := z.2.2.2) (lk' := z.2.2.2) (σ := σ) (σ' := va_up σ d (va_cpy (σ s0) (σ d) sp.toNatClampNeg dp.toNatClampNeg cnt.toNatClampNeg)) hd0 (e := .inl (q.1, sg_ag d, .inl (va_cpy (σ s0) (σ d) sp.toNatClampNeg dp.toNatClampNeg cnt.toNatClampNeg))) (by rw [sg_et1 hk2, va_up_self]) (fun i _ hi => sg_et_row (va_up_ne _ _ hi) rfl)
        rw [hset] at hP1 hD1
        exact K H1 locs1 ad arr ⟨hP1, hD1, hS1, hn, hLI, hn0, had⟩ hL hw hs.2.2.2.2.2
      · cases h
    · cases h
  · split at h
    · cases h
    · cases h
  · cases h
theorem sg_p_invokespecial (C : sg_Cx p R s m args meth c M A D q X ra) {k : Nat} (hd : decode (sg_mc M) pc = .ok (.invokespecial k, 3)) (h : sg_st X M (.invokespecial k) pc ls st z σ = some (.inl (pc', ls', st', z', σ'))) (K : sg_OK p l e R s m args below meth c M A D q ra n0 ad0 Q pc' ls' st' z' σ') : sg_OK p l e R s m args below meth c M A D q ra n0 ad0 Q pc ls st z σ := by
  obtain ⟨hx, hb, hml, hr, hown, hts, hnw, hK, hRO, hA, hlk, hmn, hfr, hlo⟩ := C
  simp only [sg_st] at h
  split at h
  · rename_i y1 y2 hf
    have hkk := sg_kl_ok hf
    simp only [sg_kck] at hkk
    split at h
    · rename_i a r
      split at h
      · rename_i hc0
        obtain ⟨h6, h7, h8⟩ := hc0
        simp only [sg_nx, Option.some.injEq, Sum.inl.injEq, Prod.mk.injEq] at h
        obtain ⟨rfl, rfl, rfl, rfl, rfl⟩ := h
        intro H locs ad arr hI hL hw hs
        obtain ⟨hP, hD, hS, hn, hLI, hn0, had⟩ := id hI
        simp only [sg_ws, List.all_cons, Bool.and_eq_true] at hs
        have hwd : ((r.map (sg_vm ad ra)).map fun v => v.category).sum ≤ 8 := by
          rw [List.map_map]
          have : ((fun v : Value => v.category) ∘ sg_vm ad ra) = fun v => v.category := by funext v; exact sg_vm_cat ad ra v
          rw [this]
          exact h6
        exact W.objInit hx hb hown (hts _ (sg_ck_mem hkk)) (hts _ (sg_ck_mem sg_objw.1)) (hts _ (sg_ck_mem sg_objw.2)) (g := F0 m pc arr (List.map (sg_vm ad ra) (.ref a :: r))) rfl (by rw [hml]; exact hL.1) rfl hd (Nat.le_trans h7 hfr) (by show 2 * 0 + _ + 12 ≤ _; omega) (K H locs ad arr hI hL hw hs.2)
      · cases h
    · cases h
  · split at h
    · split at h
      · cases h
      · cases h
    · cases h
  · cases h
theorem sg_p_invokevirtual (C : sg_Cx p R s m args meth c M A D q X ra) {k : Nat} (hd : decode (sg_mc M) pc = .ok (.invokevirtual k, 3)) (h : sg_st X M (.invokevirtual k) pc ls st z σ = some (.inl (pc', ls', st', z', σ'))) (hz : z'.2.1 ≤ R.cells ∧ z'.2.2.1 ≤ R.slots) (K : sg_OK p l e R s m args below meth c M A D q ra n0 ad0 Q pc' ls' st' z' σ') : sg_OK p l e R s m args below meth c M A D q ra n0 ad0 Q pc ls st z σ := by
  obtain ⟨hx, hb, hml, hr, hown, hts, hnw, hK, hRO, hA, hlk, hmn, hfr, hlo⟩ := C
  simp only [sg_st] at h
  split at h
  · rename_i y1 y2 hf
    have hkk := sg_kl_ok hf
    simp only [sg_kck] at hkk
    split at h
    · rename_i a r
      split at h
      · rename_i hc0
        obtain ⟨rfl, hmo, hlt, hk1, hag, h6, h7, h8⟩ := hc0
        simp only [sg_nx, Option.some.injEq, Sum.inl.injEq, Prod.mk.injEq] at h
        obtain ⟨rfl, rfl, rfl, rfl, rfl⟩ := h
        obtain ⟨n, kc, ks, lk⟩ := z
        dsimp only at hlt hk1 hag hz K ⊢
        intro H locs ad arr hI hL hw hs
        obtain ⟨hP, hD, hS, hn, hLI, hn0, had⟩ := id hI
        simp only [sg_ws, List.all_cons, Bool.and_eq_true] at hs
        have hwd : ((r.map (sg_vm ad ra)).map fun v => v.category).sum ≤ 8 := by
          rw [List.map_map]
          have : ((fun v : Value => v.category) ∘ sg_vm ad ra) = fun v => v.category := by funext v; exact sg_vm_cat ad ra v
          rw [this]
          exact h6
        have e1 : sg_vm ad ra (.ref 1002) = .ref (ra 2) := by simp only [sg_vm]; rfl
        rw [List.map_cons, e1]
        obtain ⟨cell, t1, t2, t3, t4, t5, t6, t7⟩ := hRO.1 2 (by decide)
        obtain ⟨c0, t0', f1, f2, f3⟩ := Cond.castable_spec (va_Nw.use (A := args) rfl (hnw (.castable "[I" "java/lang/Cloneable") (by decide +kernel)))
        have hqI := sg_arrI hK
        cases hqI.symm.trans f1
        have hcls : cell.cls = q.1 := by
          obtain ⟨cell2, u1, u2, u3⟩ := hRO.2.2
          cases t1.symm.trans u1
          rw [hqI] at u2
          exact (Option.some.inj u2).symm
        have hsz : cell.slots.size = 6 := t5
        have hcellH : H[ra 2]? = some cell := by rw [hS.2.1 _ (Array.getElem?_eq_some_iff.mp t1).1 t7]; exact t1
        have hcellE : ({ cls := cell.cls, slots := cell.slots } : Cell) = arrV q.1 6 (fun j => .int ((sg_ro X 2).2 j)) := by
          rw [hcls]
          have : cell.slots = Array.ofFn (n := 6) fun j => Value.int ((sg_ro X 2).2 j.val) := by
            apply Array.ext_getElem?
            intro i
            by_cases hi : i < 6
            · rw [t6 i hi, Array.getElem?_ofFn]
              simp [hi]
            · rw [Array.getElem?_eq_none (by omega), Array.getElem?_eq_none (by simpa using hi)]
          rw [this]
          rfl
        intro T hT XX
        have hcellT : T.heap[ra 2]? = some cell := by rw [hT]; exact hcellH
        obtain ⟨-, kA, hkA, comp, hkind⟩ := State.isArrayOf_alike XX.warmed.alike t2
        obtain ⟨-, kS, hkS, compS, hkindS⟩ := t2
        obtain ⟨vm', X', st⟩ := XX.cloneArray hx hown (hts _ (sg_ck_mem hkk)) (hts _ (sg_ck_mem sg_clw.1)) (hts _ (sg_ck_mem sg_clw.2.1)) (hts _ (sg_ck_mem sg_clw.2.2.1)) (hts _ (sg_ck_mem sg_clw.2.2.2.1)) (a := ra 2) (cell := cell) hcellT (fun k h => by rw [h] at t4; cases t4) t3 (by rw [hcls]; exact hqI) f2 (by rw [hcls]; exact f3)
          (fun i v hv => by
            have hi : i < 6 := by rw [← hsz]; exact (Array.getElem?_eq_some_iff.mp hv).1
            have hk' : T.vm.classes[cell.cls]? = some kA := hkA
            have hv2 := t6 i hi
            rw [hv] at hv2
            cases hv2
            simp [State.fitsSlot, State.slotType?, hk', hkind, fits])
          (g := F0 m pc arr (.ref (ra 2) :: r.map (sg_vm ad ra))) rfl (by rw [hml]; exact hL.1) rfl (by rw [hb]; exact hd) (Nat.le_trans h7 hfr) (by show 2 * 0 + _ + 14 ≤ _; omega) hz.1 (by rw [hsz]; exact hz.2) (hloader := Vm.clonesLoader_of_array hkS hkindS)
        rw [hcellE, hsz] at X'
        generalize hH1 : H.push (arrV q.1 6 (fun j => .int ((sg_ro X 2).2 j))) = H1
        have z1 : H1.size = H.size + 1 := by rw [← hH1, Array.size_push]
        have e1 : H1[H.size]? = some (arrV q.1 6 (fun j => .int ((sg_ro X 2).2 j))) := by rw [← hH1, Array.getElem?_push_size]
        have o1 : ∀ q : Nat, q < H.size → H1[q]? = H[q]? := fun q hq => by rw [← hH1, Array.getElem?_push, if_neg (Nat.ne_of_lt hq)]
        have hk : ∀ (k : Nat) (y : Nat × va_E), (sg_wd q ad n lk σ)[k]? = some y → H1[y.1]? = H[y.1]? := fun k y hy => o1 y.1 ((hP k y hy).lt)
        have hP1 : va_P D vwCl (sg_wd q ad n lk σ ++ [(H.size, .inl (q.1, 6, .inl (sg_ro X 2).2))]) H1 := (hP.kept hk).app (fun k y hy => by
          have hz : k < 1 := (List.getElem?_eq_some_iff.mp hy).1
          rw [show k = 0 by omega] at hy
          cases hy
          exact e1)
        have hD1 : va_D A (sg_wd q ad n lk σ ++ [(H.size, .inl (q.1, 6, .inl (sg_ro X 2).2))]) := hD.push hP rfl (hA _ hS.1)
        have hS1 : va_S A s.heap H1 locs := ⟨Nat.le_trans hS.1 (by omega), fun y h1 h2 => (o1 y (Nat.lt_of_lt_of_le h1 hS.1)).trans (hS.2.1 y h1 h2), hS.2.2⟩
        obtain ⟨hI1, hj⟩ := sg_In_new (kc' := kc + 1) (ks' := ks + 6) (σ' := va_up σ n (sg_ro X 2).2) hI hlt (fun k hk => va_up_ne _ _ (by omega)) (fun j hi => by rw [sg_is1 (Or.inl hk1)] at hi; cases hi) (by rw [sg_et1 hk1, va_up_self, hag]) hP1 hD1 hS1
        have K1 := K H1 locs (va_up ad n H.size) arr hI1 (sg_LH_ad (by omega) hj hw hL) (sg_wl_le (Nat.le_succ n) hw) (by simp only [sg_ws, List.all_cons, Bool.and_eq_true]; exact ⟨by simp [sg_wv], sg_ws_le (Nat.le_succ n) hs.2⟩)
        rw [List.map_cons, sg_map_ad (by omega) hj hs.2, sg_vm_ref (n := n + 1) (by omega) (by omega), va_up_self] at K1
        obtain ⟨t, b1, b2⟩ := K1 ((T.setVm vm').pushCell (arrV q.1 6 (fun j => .int ((sg_ro X 2).2 j)))) (by rw [← hH1, ← hT]; rfl) X'
        refine ⟨t, st t ?_, b2⟩
        rw [hcellE, hT]
        exact b1
      · cases h
    · cases h
  · split at h
    · split at h
      · split at h
        · cases h
        · cases h
      · cases h
    · cases h
  · cases h
end SGN
end
section
/-! counters grow -/
theorem sg_mono1 {X : sg_X} {m pc pc' : Nat} {i : Instr} {ls ls' : sg_L} {st st' : List Value} {z z' : sg_Z} {σ σ' : sg_S} (h : sg_st X m i pc ls st z σ = some (.inl (pc', ls', st', z', σ'))) : z.1 ≤ z'.1 ∧ z.2.1 ≤ z'.2.1 ∧ z.2.2.1 ≤ z'.2.2.1 := by
  obtain ⟨n, kc, ks, lk⟩ := z
  cases i <;> simp only [sg_st, sg_nx, sg_ldi, sg_ldl, sg_lda, sg_sti, sg_stl, sg_sta, sg_i1, sg_i2, sg_l2, sg_jp, reduceCtorEq] at h <;>
    (repeat' split at h) <;>
    first
    | (cases h; done)
    | (simp only [Option.some.injEq, Sum.inl.injEq, Prod.mk.injEq] at h
       obtain ⟨-, -, -, rfl, -⟩ := h
       exact ⟨Nat.le_refl _, Nat.le_refl _, Nat.le_refl _⟩)
    | (simp only [Option.some.injEq, Sum.inl.injEq, Prod.mk.injEq] at h
       obtain ⟨-, -, -, rfl, -⟩ := h
       exact ⟨Nat.le_add_right _ _, Nat.le_add_right _ _, Nat.le_add_right _ _⟩)
theorem sg_mono {X : sg_X} : ∀ (f : Nat) {m pc : Nat} {ls : sg_L} {st : List Value} {z z' : sg_Z} {σ σ' : sg_S} {r : Option Value}, sg_ex X f m pc ls st z σ = some (r, z', σ') → z.1 ≤ z'.1 ∧ z.2.1 ≤ z'.2.1 ∧ z.2.2.1 ≤ z'.2.2.1
  | 0, m, pc, ls, st, z, z', σ, σ', r, h => by cases h
  | f + 1, m, pc, ls, st, z, z', σ, σ', r, h => by
    rw [sg_ex] at h
    split at h
    · rename_i i n hd
      split at h
      · split at h
        · rename_i pc1 ls1 st1 z1 σ1 h1
          have a := sg_mono1 h1
          have b := sg_mono f h
          omega
        · rename_i y as keep pc1 ls1 st1 h1
          split at h
          · rename_i r1 z1 σ1 h2
            split at h
            · rename_i hc
              have b := sg_mono f h
              dsimp only at b
              cases keep with
              | true => simp only [cond_true] at b; omega
              | false => simp only [cond_false] at b; omega
            · cases h
          · cases h
        · rename_i r1 h1
          simp only [Option.some.injEq, Prod.mk.injEq] at h
          obtain ⟨-, rfl, -⟩ := h
          exact ⟨Nat.le_refl _, Nat.le_refl _, Nat.le_refl _⟩
        · cases h
      · cases h
    · cases h
end
section
section SGD
variable {p : Program} {l : Launch} {e : Env} {R : Room} {s : State} {m : MethodId} {args : Array Value} {below : List Frame} {meth : Method} {c : Code} {M : Nat} {A : Nat → Prop} {D : va_G} {q : sg_Ci} {X : sg_X} {ra : Nat → Nat} {n0 : Nat} {ad0 : Nat → Nat} {Q : State → Prop}
variable {pc pc' : Nat} {ls ls' : sg_L} {st st' : List Value} {z z' : sg_Z} {σ σ' : sg_S}
theorem sg_step (C : sg_Cx p R s m args meth c M A D q X ra) {i : Instr} {n : Nat} (hd : decode (sg_mc M) pc = .ok (i, n)) (hn : sg_ln i n = true) (h : sg_st X M i pc ls st z σ = some (.inl (pc', ls', st', z', σ'))) (hz : z'.2.1 ≤ R.cells ∧ z'.2.2.1 ≤ R.slots) (K : sg_OK p l e R s m args below meth c M A D q ra n0 ad0 Q pc' ls' st' z' σ') : sg_OK p l e R s m args below meth c M A D q ra n0 ad0 Q pc ls st z σ := by
  have h1 : sg_ln i n = true := hn
  cases i <;> first
    | (simp only [sg_st, reduceCtorEq] at h; done)
    | exact sg_p_tableswitch C hd h K
    | (simp only [sg_ln, beq_iff_eq] at h1
       subst h1
       first
       | exact sg_p_iconst C hd h K
       | exact sg_p_bipush C hd h K
       | exact sg_p_sipush C hd h K
       | exact sg_p_lconst C hd h K
       | exact sg_p_ldc C hd h K
       | exact sg_p_ldc_w C hd h K
       | exact sg_p_ldc2_w C hd h K
       | exact sg_p_iload C hd h K
       | exact sg_p_iload_n C hd h K
       | exact sg_p_lload C hd h K
       | exact sg_p_lload_n C hd h K
       | exact sg_p_aload C hd h K
       | exact sg_p_aload_n C hd h K
       | exact sg_p_istore C hd h K
       | exact sg_p_istore_n C hd h K
       | exact sg_p_lstore C hd h K
       | exact sg_p_lstore_n C hd h K
       | exact sg_p_astore C hd h K
       | exact sg_p_astore_n C hd h K
       | exact sg_p_iinc C hd h K
       | exact sg_p_iadd C hd h K
       | exact sg_p_isub C hd h K
       | exact sg_p_imul C hd h K
       | exact sg_p_iand C hd h K
       | exact sg_p_ior C hd h K
       | exact sg_p_ixor C hd h K
       | exact sg_p_ishl C hd h K
       | exact sg_p_ishr C hd h K
       | exact sg_p_iushr C hd h K
       | exact sg_p_idiv C hd h K
       | exact sg_p_irem C hd h K
       | exact sg_p_ineg C hd h K
       | exact sg_p_i2b C hd h K
       | exact sg_p_i2s C hd h K
       | exact sg_p_i2l C hd h K
       | exact sg_p_ladd C hd h K
       | exact sg_p_lmul C hd h K
       | exact sg_p_lcmp C hd h K
       | exact sg_p_pop C hd h K
       | exact sg_p_dup C hd h K
       | exact sg_p_dup2 C hd h K
       | exact sg_p_goto C hd h K
       | exact sg_p_ifCond C hd h K
       | exact sg_p_if_icmp C hd h K
       | exact sg_p_getfield C hd h K
       | exact sg_p_putfield C hd h K
       | exact sg_p_getstatic C hd h K
       | exact sg_p_iaload C hd h K
       | exact sg_p_iastore C hd h K
       | exact sg_p_baload C hd h K
       | exact sg_p_bastore C hd h K
       | exact sg_p_aaload C hd h K
       | exact sg_p_aastore C hd h K
       | exact sg_p_arraylength C hd h K
       | exact sg_p_new C hd h hz K
       | exact sg_p_newarray C hd h hz K
       | exact sg_p_anewarray C hd h hz K
       | exact sg_p_checkcast C hd h K
       | exact sg_p_invokestatic C hd h K
       | exact sg_p_invokespecial C hd h K
       | exact sg_p_invokevirtual C hd h hz K
       | (simp only [sg_st] at h
          (repeat' split at h) <;> cases h))
end SGD
theorem sg_take_rev {st : List Value} {n : Nat} : st = (st.take n).reverse.reverse ++ st.drop n := by rw [List.reverse_reverse, List.take_append_drop]
/-- what a call is -/
theorem sg_call_inv {X : sg_X} {M pc y pc' : Nat} {i : Instr} {ls ls' : sg_L} {st as st' : List Value} {z : sg_Z} {σ : sg_S} {keep : Bool} (h : sg_st X M i pc ls st z σ = some (.inr (.inl (y, as, keep, pc', ls', st')))) :
    ls' = ls ∧ pc' = pc + 3 ∧ sg_rm M y ∧ sg_wds st' ≤ 8 ∧ st = as.reverse ++ st' ∧ as.length = sg_ac y ∧
    ((∃ k kd pl, i = .invokestatic k ∧ sg_kl (sg_mo M) k = some (kd, y, pl) ∧ (kd = 1 ∨ kd = 4) ∧ keep = false) ∨
     (∃ k pl a as', i = .invokevirtual k ∧ sg_kl (sg_mo M) k = some (2, y, pl) ∧ as = .ref a :: as' ∧ a < z.1 ∧ sg_kd a = 0 ∧ sg_ag a = sg_mo y ∧ keep = false) ∨
     (∃ k kd pl a as', i = .invokespecial k ∧ sg_kl (sg_mo M) k = some (kd, y, pl) ∧ (kd = 3 ∨ kd = 5) ∧ as = .ref a :: as' ∧ keep = true)) := by
  cases i with
  | invokestatic k =>
    simp only [sg_st] at h
    split at h
    · split at h
      · split at h <;> cases h
      · cases h
    · rename_i kd y1 pl hne hf
      split at h
      · rename_i hc
        simp only [Option.some.injEq, Sum.inr.injEq, Sum.inl.injEq, Prod.mk.injEq] at h
        obtain ⟨rfl, rfl, rfl, rfl, rfl, rfl⟩ := h
        refine ⟨rfl, rfl, hc.2.2.2, hc.2.2.1, sg_take_rev, ?_, Or.inl ⟨k, kd, pl, rfl, hf, hc.1, rfl⟩⟩
        rw [List.length_reverse, List.length_take]
        omega
      · cases h
    · cases h
  | invokevirtual k =>
    simp only [sg_st] at h
    split at h
    · split at h
      · split at h <;> cases h
      · cases h
    · rename_i kd y1 pl hne hf
      split at h
      · rename_i hc
        split at h
        · rename_i a as1 hrev
          split at h
          · rename_i hc2
            simp only [Option.some.injEq, Sum.inr.injEq, Sum.inl.injEq, Prod.mk.injEq] at h
            obtain ⟨rfl, rfl, rfl, rfl, rfl, rfl⟩ := h
            obtain ⟨rfl, h1, h2, h3⟩ := hc
            refine ⟨rfl, rfl, h3, h2, ?_, ?_, Or.inr (Or.inl ⟨k, pl, a, as1, rfl, hf, rfl, hc2.1, hc2.2.1, hc2.2.2, rfl⟩)⟩
            · rw [← hrev]; exact sg_take_rev
            · rw [← hrev, List.length_reverse, List.length_take]; omega
          · cases h
        · cases h
      · cases h
    · cases h
  | invokespecial k =>
    simp only [sg_st] at h
    split at h
    · split at h
      · split at h <;> cases h
      · cases h
    · rename_i kd y1 pl hne hf
      split at h
      · rename_i hc
        split at h
        · rename_i a as1 hrev
          simp only [Option.some.injEq, Sum.inr.injEq, Sum.inl.injEq, Prod.mk.injEq] at h
          obtain ⟨rfl, rfl, rfl, rfl, rfl, rfl⟩ := h
          obtain ⟨h0, h1, h2, h3⟩ := hc
          refine ⟨rfl, rfl, h3, h2, ?_, ?_, Or.inr (Or.inr ⟨k, kd, pl, a, as1, rfl, hf, h0, rfl, rfl⟩)⟩
          · rw [← hrev]; exact sg_take_rev
          · rw [← hrev, List.length_reverse, List.length_take]; omega
        · cases h
      · cases h
    · cases h
  | _ =>
    simp only [sg_st, sg_nx, sg_ldi, sg_ldl, sg_lda, sg_sti, sg_stl, sg_sta, sg_i1, sg_i2, sg_l2, sg_jp, reduceCtorEq] at h <;>
    (repeat' split at h) <;> cases h
end
section
theorem sg_cw : ∀ m, m < 203 → Cond.code (sg_my m) (sg_mc m) (sg_ml m) (sg_mr m) ∈ lw_tbl
  | 0, _ => sg_cw0
  | 1, _ => sg_cw1
  | 2, _ => sg_cw2
  | 3, _ => sg_cw3
  | 4, _ => sg_cw4
  | 5, _ => sg_cw5
  | 6, _ => sg_cw6
  | 7, _ => sg_cw7
  | 8, _ => sg_cw8
  | 9, _ => sg_cw9
  | 10, _ => sg_cw10
  | 11, _ => sg_cw11
  | 12, _ => sg_cw12
  | 13, _ => sg_cw13
  | 14, _ => sg_cw14
  | 15, _ => sg_cw15
  | 16, _ => sg_cw16
  | 17, _ => sg_cw17
  | 18, _ => sg_cw18
  | 19, _ => sg_cw19
  | 20, _ => sg_cw20
  | 21, _ => sg_cw21
  | 22, _ => sg_cw22
  | 23, _ => sg_cw23
  | 24, _ => sg_cw24
  | 25, _ => sg_cw25
  | 26, _ => sg_cw26
  | 27, _ => sg_cw27
  | 28, _ => sg_cw28
  | 29, _ => sg_cw29
  | 30, _ => sg_cw30
  | 31, _ => sg_cw31
  | 32, _ => sg_cw32
  | 33, _ => sg_cw33
  | 34, _ => sg_cw34
  | 35, _ => sg_cw35
  | 36, _ => sg_cw36
  | 37, _ => sg_cw37
  | 38, _ => sg_cw38
  | 39, _ => sg_cw39
  | 40, _ => sg_cw40
  | 41, _ => sg_cw41
  | 42, _ => sg_cw42
  | 43, _ => sg_cw43
  | 44, _ => sg_cw44
  | 45, _ => sg_cw45
  | 46, _ => sg_cw46
  | 47, _ => sg_cw47
  | 48, _ => sg_cw48
  | 49, _ => sg_cw49
  | 50, _ => sg_cw50
  | 51, _ => sg_cw51
  | 52, _ => sg_cw52
  | 53, _ => sg_cw53
  | 54, _ => sg_cw54
  | 55, _ => sg_cw55
  | 56, _ => sg_cw56
  | 57, _ => sg_cw57
  | 58, _ => sg_cw58
  | 59, _ => sg_cw59
  | 60, _ => sg_cw60
  | 61, _ => sg_cw61
  | 62, _ => sg_cw62
  | 63, _ => sg_cw63
  | 64, _ => sg_cw64
  | 65, _ => sg_cw65
  | 66, _ => sg_cw66
  | 67, _ => sg_cw67
  | 68, _ => sg_cw68
  | 69, _ => sg_cw69
  | 70, _ => sg_cw70
  | 71, _ => sg_cw71
  | 72, _ => sg_cw72
  | 73, _ => sg_cw73
  | 74, _ => sg_cw74
  | 75, _ => sg_cw75
  | 76, _ => sg_cw76
  | 77, _ => sg_cw77
  | 78, _ => sg_cw78
  | 79, _ => sg_cw79
  | 80, _ => sg_cw80
  | 81, _ => sg_cw81
  | 82, _ => sg_cw82
  | 83, _ => sg_cw83
  | 84, _ => sg_cw84
  | 85, _ => sg_cw85
  | 86, _ => sg_cw86
  | 87, _ => sg_cw87
  | 88, _ => sg_cw88
  | 89, _ => sg_cw89
  | 90, _ => sg_cw90
  | 91, _ => sg_cw91
  | 92, _ => sg_cw92
  | 93, _ => sg_cw93
  | 94, _ => sg_cw94
  | 95, _ => sg_cw95
  | 96, _ => sg_cw96
  | 97, _ => sg_cw97
  | 98, _ => sg_cw98
  | 99, _ => sg_cw99
  | 100, _ => sg_cw100
  | 101, _ => sg_cw101
  | 102, _ => sg_cw102
  | 103, _ => sg_cw103
  | 104, _ => sg_cw104
  | 105, _ => sg_cw105
  | 106, _ => sg_cw106
  | 107, _ => sg_cw107
  | 108, _ => sg_cw108
  | 109, _ => sg_cw109
  | 110, _ => sg_cw110
  | 111, _ => sg_cw111
  | 112, _ => sg_cw112
  | 113, _ => sg_cw113
  | 114, _ => sg_cw114
  | 115, _ => sg_cw115
  | 116, _ => sg_cw116
  | 117, _ => sg_cw117
  | 118, _ => sg_cw118
  | 119, _ => sg_cw119
  | 120, _ => sg_cw120
  | 121, _ => sg_cw121
  | 122, _ => sg_cw122
  | 123, _ => sg_cw123
  | 124, _ => sg_cw124
  | 125, _ => sg_cw125
  | 126, _ => sg_cw126
  | 127, _ => sg_cw127
  | 128, _ => sg_cw128
  | 129, _ => sg_cw129
  | 130, _ => sg_cw130
  | 131, _ => sg_cw131
  | 132, _ => sg_cw132
  | 133, _ => sg_cw133
  | 134, _ => sg_cw134
  | 135, _ => sg_cw135
  | 136, _ => sg_cw136
  | 137, _ => sg_cw137
  | 138, _ => sg_cw138
  | 139, _ => sg_cw139
  | 140, _ => sg_cw140
  | 141, _ => sg_cw141
  | 142, _ => sg_cw142
  | 143, _ => sg_cw143
  | 144, _ => sg_cw144
  | 145, _ => sg_cw145
  | 146, _ => sg_cw146
  | 147, _ => sg_cw147
  | 148, _ => sg_cw148
  | 149, _ => sg_cw149
  | 150, _ => sg_cw150
  | 151, _ => sg_cw151
  | 152, _ => sg_cw152
  | 153, _ => sg_cw153
  | 154, _ => sg_cw154
  | 155, _ => sg_cw155
  | 156, _ => sg_cw156
  | 157, _ => sg_cw157
  | 158, _ => sg_cw158
  | 159, _ => sg_cw159
  | 160, _ => sg_cw160
  | 161, _ => sg_cw161
  | 162, _ => sg_cw162
  | 163, _ => sg_cw163
  | 164, _ => sg_cw164
  | 165, _ => sg_cw165
  | 166, _ => sg_cw166
  | 167, _ => sg_cw167
  | 168, _ => sg_cw168
  | 169, _ => sg_cw169
  | 170, _ => sg_cw170
  | 171, _ => sg_cw171
  | 172, _ => sg_cw172
  | 173, _ => sg_cw173
  | 174, _ => sg_cw174
  | 175, _ => sg_cw175
  | 176, _ => sg_cw176
  | 177, _ => sg_cw177
  | 178, _ => sg_cw178
  | 179, _ => sg_cw179
  | 180, _ => sg_cw180
  | 181, _ => sg_cw181
  | 182, _ => sg_cw182
  | 183, _ => sg_cw183
  | 184, _ => sg_cw184
  | 185, _ => sg_cw185
  | 186, _ => sg_cw186
  | 187, _ => sg_cw187
  | 188, _ => sg_cw188
  | 189, _ => sg_cw189
  | 190, _ => sg_cw190
  | 191, _ => sg_cw191
  | 192, _ => sg_cw192
  | 193, _ => sg_cw193
  | 194, _ => sg_cw194
  | 195, _ => sg_cw195
  | 196, _ => sg_cw196
  | 197, _ => sg_cw197
  | 198, _ => sg_cw198
  | 199, _ => sg_cw199
  | 200, _ => sg_cw200
  | 201, _ => sg_cw201
  | 202, _ => sg_cw202
  | _ + 203, h => by omega

/-- a method's words -/
def sg_wo (y : Nat) : List Cond := Cond.code (sg_my y) (sg_mc y) (sg_ml y) (sg_mr y) :: sg_gw
theorem sg_wo_in {y : Nat} (h : y < 203) : GoodIn sg_gw (sg_wo y) := by
  intro w hw
  rcases List.mem_cons.mp hw with rfl | hw
  · exact ⟨List.mem_filter.mpr ⟨sg_cw y h, rfl⟩, Or.inl rfl⟩
  · exact ⟨hw, good_of_word (List.mem_filter.mp hw).2⟩
theorem sg_nf49 (c : Nat) : sg_nf c ≤ 49 := by
  by_cases h : c < 11
  · exact (show ∀ c, c < 11 → sg_nf c ≤ 49 by decide +kernel) c h
  · unfold sg_nf
    rw [List.getD_eq_getElem?_getD, List.getElem?_eq_none (by show 11 ≤ c; omega)]
    decide
theorem sg_is49 {k j : Nat} (h : sg_is k j = true) : j < 49 := by
  unfold sg_is at h
  simp only [Bool.or_eq_true, Bool.and_eq_true, decide_eq_true_eq] at h
  rcases h with ⟨-, h⟩ | ⟨h0, h⟩
  · exact Nat.lt_of_lt_of_le (sg_rb_nf h) (sg_nf49 _)
  · by_cases hk : k < 128
    · have := (show ∀ k, k < 128 → sg_kd k = 3 → sg_ag k ≤ 49 by decide +kernel) k hk h0
      omega
    · rw [sg_kd_out (by omega)] at h
      omega
theorem sg_lic_LI {n : Nat} {lk : Nat → Nat → Bool} (h : sg_lic n lk = true) : sg_LI n lk := by
  intro k j hk hl hi
  have h1 := List.all_eq_true.mp (List.all_eq_true.mp h k (List.mem_range.mpr hk)) j (List.mem_range.mpr (sg_is49 hi))
  rw [hl, hi] at h1
  simpa using h1
/-! a method's contract, for one run of the plain machine -/
def sg_Pc (X : sg_X) (ra : Nat → Nat) (q : sg_Ci) (D : va_G) (ad : Nat → Nat) (n : Nat) (lk : Nat → Nat → Bool) (σ : sg_S) (as : List Value) (sz : Nat) : Array Value → State → Prop := fun v U =>
  v = (as.map (sg_vm ad ra)).toArray ∧ U.heap.size = sz ∧ va_P D vwCl (sg_wd q ad n lk σ) U.heap ∧ va_K D vwCl [(q.1, .int), (q.2.1, .boolean), (q.2.2, .object RX2)] U ∧ va_D (fun _ => True) (sg_wd q ad n lk σ) ∧ sg_RO X ra (va_A (sg_wd q ad n lk σ) sz) U U.heap ∧ ∀ w ∈ sg_nw, va_Nw w U
def sg_Qc (ra : Nat → Nat) (q : sg_Ci) (D : va_G) (ad : Nat → Nat) (n : Nat) (lk : Nat → Nat → Bool) (σ : sg_S) (sz : Nat) (r : Option Value) (z' : sg_Z) (σ' : sg_S) : Array Value → State → Outcome → State → Prop := fun _ st oc t =>
  (∃ ad' : Nat → Nat, (∀ k, k < n → ad' k = ad k) ∧ oc = .returned (r.map (sg_vm ad' ra)) ∧ va_P D vwCl (sg_wd q ad' z'.1 z'.2.2.2 σ') t.heap ∧ va_D (va_A (sg_wd q ad n lk σ) sz) (sg_wd q ad' z'.1 z'.2.2.2 σ') ∧ sg_LI z'.1 z'.2.2.2 ∧ z'.1 ≤ 1000) ∧ va_F (va_A (sg_wd q ad n lk σ) sz) st t
theorem sg_Pc_blind {X : sg_X} {ra : Nat → Nat} {q : sg_Ci} {D : va_G} {ad : Nat → Nat} {n : Nat} {lk : Nat → Nat → Bool} {σ : sg_S} {as : List Value} {sz : Nat} : FrameBlind (sg_Pc X ra q D ad n lk σ as sz) := by
  intro a U g mk h
  obtain ⟨h1, h2, h3, h4, h5, h6, h7⟩ := h
  exact ⟨h1, h2, h3, va_K.moved (u := U) (U := U.calling g mk a) (Vm.Alike.refl U.vm) h4, h5, sg_RO.moved (u := U) (U := U.calling g mk a) (Vm.Alike.refl U.vm) h6, sg_nw_warm (s := U) (U := U.calling g mk a) (State.WarmedH.refl U) h7⟩
section SGC
variable {p : Program} {l : Launch} {e : Env} {R : Room} {s : State} {m : MethodId} {args : Array Value} {below : List Frame} {meth : Method} {c : Code} {H : Heap} {locs : List Loc} {cells slots : Nat} {Q : State → Prop}
theorem sg_goes {pc : Nat} {arr : Array Slot} {rest st0 : List Value} {a : Array Value} {A : Nat → Prop} {mc ms : Nat} {ra : Nat → Nat} {q : sg_Ci} {D : va_G} {ad : Nat → Nat} {n : Nat} {lk : Nat → Nat → Bool} {σ : sg_S} {r : Option Value} {z' : sg_Z} {σ' : sg_S}
    (hr : va_Run p l e R s m args below meth c H locs cells slots mc ms (F0 m pc arr st0) rest (sg_Qc ra q D ad n lk σ H.size r z' σ' a) (va_A (sg_wd q ad n lk σ) H.size)) (hS : va_S A s.heap H locs) (hf : ∀ q', va_A (sg_wd q ad n lk σ) H.size q' → A q')
    (kk : ∀ (ad' : Nat → Nat) (H1 : Heap) (locs1 : List Loc), (∀ k, k < n → ad' k = ad k) → va_P D vwCl (sg_wd q ad' z'.1 z'.2.2.2 σ') H1 → va_D A (sg_wd q ad' z'.1 z'.2.2.2 σ') → sg_LI z'.1 z'.2.2.2 → z'.1 ≤ 1000 → va_S A s.heap H1 locs1 → W p l e R s m args below meth c H1 locs1 (cells + mc) (slots + ms) Q (F0 m (pc + 3) arr ((r.map (sg_vm ad' ra)).toList ++ rest))) : W p l e R s m args below meth c H locs cells slots Q (F0 m pc arr st0) := by
  intro T hT X
  obtain ⟨v, st₀, t, T', L, h0, X', hL, e1, e2, ⟨⟨ad', h1, h2, h3, h4, h5, h6⟩, hz, hk⟩, st⟩ := hr T hT X
  cases h2
  rw [h0] at hz hk
  obtain ⟨t2, a1, b1⟩ := kk ad' T'.heap (locs ++ L) h1 (by rw [e1]; exact h3) (h4.weaken (fun _ _ _ h => hf _ h)) h5 h6
    ⟨Nat.le_trans hS.1 (by rw [e1]; exact hz), fun q' g1 g2 => by rw [e1, hk q' (Nat.lt_of_lt_of_le g1 hS.1) (fun z => g2 (hf q' z))]; exact hS.2.1 q' g1 g2, fun q' hq => by
      rcases List.mem_append.mp hq with h | h
      · exact hS.2.2 q' h
      · exact hf _ (hL q' h)⟩ T' rfl X'
  exact ⟨t2, st t2 a1, b1⟩
end SGC
/-- what a run of the plain machine says of the machine -/
def sg_Snd (X : sg_X) (f : Nat) : Prop := ∀ (M pc : Nat) (ls : sg_L) (st : List Value) (z : sg_Z) (σ : sg_S) (r : Option Value) (z' : sg_Z) (σ' : sg_S), sg_ex X f M pc ls st z σ = some (r, z', σ') →
  ∀ (p : Program) (l : Launch) (e : Env) (R : Room) (s : State) (m : MethodId) (args : Array Value) (below : List Frame) (meth : Method) (c : Code) (A : Nat → Prop) (D : va_G) (q : sg_Ci) (ra : Nat → Nat) (n0 : Nat) (ad0 : Nat → Nat) (Q : State → Prop), sg_Cx p R s m args meth c M A D q X ra → z'.2.1 ≤ R.cells → z'.2.2.1 ≤ R.slots →
  (∀ (H : Heap) (locs : List Loc) (ad : Nat → Nat) (arr : Array Slot) (pcr : Nat) (i : Instr) (n : Nat) (lsr : sg_L) (str : List Value), sg_In s A D q n0 ad0 ad z' σ' H locs → decode (sg_mc M) pcr = .ok (i, n) → sg_ln i n = true → sg_st X M i pcr lsr str z' σ' = some (.inr (.inr r)) → sg_ws z'.1 str → W p l e R s m args below meth c H locs z'.2.1 z'.2.2.1 Q (F0 m pcr arr (str.map (sg_vm ad ra)))) →
  sg_OK p l e R s m args below meth c M A D q ra n0 ad0 Q pc ls st z σ
theorem sg_ret_inv {X : sg_X} {M pc : Nat} {i : Instr} {ls : sg_L} {st : List Value} {z : sg_Z} {σ : sg_S} {r : Option Value} (h : sg_st X M i pc ls st z σ = some (.inr (.inr r))) :
    (∃ v, i = .ireturn ∧ st = [.int v] ∧ r = some (.int v) ∧ (sg_mr M = some .int ∨ (sg_mr M = some .boolean ∧ (v = 0 ∨ v = 1)))) ∨ (∃ v, i = .lreturn ∧ st = [.long v] ∧ r = some (.long v) ∧ sg_mr M = some .long) ∨ (∃ a n, i = .areturn ∧ st = [.ref a] ∧ r = some (.ref a) ∧ sg_mr M = some (.object n)) ∨ (i = .return_ ∧ st = [] ∧ r = none ∧ sg_mr M = none) := by
  cases i with
  | ireturn =>
    simp only [sg_st] at h
    split at h
    · rename_i v h1
      simp only [Option.some.injEq, Sum.inr.injEq] at h
      exact Or.inl ⟨v, rfl, rfl, h.symm, Or.inl h1⟩
    · rename_i v h1
      split at h
      · rename_i hv
        simp only [Option.some.injEq, Sum.inr.injEq] at h
        exact Or.inl ⟨v, rfl, rfl, h.symm, Or.inr ⟨h1, hv⟩⟩
      · cases h
    · cases h
  | lreturn =>
    simp only [sg_st] at h
    split at h
    · rename_i v h1
      simp only [Option.some.injEq, Sum.inr.injEq] at h
      exact Or.inr (Or.inl ⟨v, rfl, rfl, h.symm, h1⟩)
    · cases h
  | areturn =>
    simp only [sg_st] at h
    split at h
    · rename_i a n h1
      simp only [Option.some.injEq, Sum.inr.injEq] at h
      exact Or.inr (Or.inr (Or.inl ⟨a, n, rfl, rfl, h.symm, h1⟩))
    · cases h
  | return_ =>
    simp only [sg_st] at h
    split at h
    · rename_i h1
      simp only [Option.some.injEq, Sum.inr.injEq] at h
      exact Or.inr (Or.inr (Or.inr ⟨rfl, rfl, h.symm, h1⟩))
    · cases h
  | _ =>
    simp only [sg_st, sg_nx, sg_ldi, sg_ldl, sg_lda, sg_sti, sg_stl, sg_sta, sg_i1, sg_i2, sg_l2, sg_jp, reduceCtorEq] at h <;>
    (repeat' split at h) <;> cases h
theorem sg_e1_or (a : Value) : (∃ x, a = .long x ∧ sg_e1 a = [some (.long x), none]) ∨ ((∀ x, a ≠ .long x) ∧ sg_e1 a = [some a]) := by
  cases a with
  | long x => exact Or.inl ⟨x, rfl, rfl⟩
  | _ => exact Or.inr ⟨fun x h => (by cases h), rfl⟩
theorem sg_en_get {ad ra : Nat → Nat} : ∀ (as : List Value) (k i : Nat) (v : Value), (as.flatMap sg_e1)[i]? = some (some v) → (∀ v ∈ as, v.category = 2 → ∃ x, v = .long x) → (k + i, sg_vm ad ra v) ∈ lv_args k (as.map (sg_vm ad ra))
  | [], k, i, v, h, _ => by simp at h
  | a :: as, k, i, v, h, hc => by
    rw [List.flatMap_cons] at h
    have hc' : ∀ v ∈ as, v.category = 2 → ∃ x, v = .long x := fun v hv => hc v (List.mem_cons_of_mem _ hv)
    rcases sg_e1_or a with ⟨x, rfl, e⟩ | ⟨ha, e⟩
    · rw [e] at h
      rw [List.map_cons, lv_args]
      match i, h with
      | 0, h =>
        simp only [List.cons_append, List.getElem?_cons_zero, Option.some.injEq] at h
        subst h
        exact List.mem_cons_self
      | 1, h => simp at h
      | i + 2, h =>
        simp only [List.cons_append, List.nil_append, List.getElem?_cons_succ] at h
        have h2 := sg_en_get (ad := ad) (ra := ra) as (k + 2) i v h hc'
        refine List.mem_cons_of_mem _ ?_
        rw [show k + (i + 2) = k + 2 + i by omega]
        exact h2
    · have hcat : a.category = 1 := by
        rcases lv_cat a with h1 | h1
        · exact h1
        · obtain ⟨x, hx⟩ := hc a List.mem_cons_self h1
          exact absurd hx (ha x)
      rw [e] at h
      rw [List.map_cons, lv_args]
      match i, h with
      | 0, h =>
        simp only [List.cons_append, List.nil_append, List.getElem?_cons_zero, Option.some.injEq] at h
        subst h
        exact List.mem_cons_self
      | i + 1, h =>
        simp only [List.cons_append, List.nil_append, List.getElem?_cons_succ] at h
        have h2 := sg_en_get (ad := ad) (ra := ra) as (k + 1) i v h hc'
        refine List.mem_cons_of_mem _ ?_
        rw [sg_vm_cat, hcat, if_neg (by decide), show k + (i + 1) = k + 1 + i by omega]
        exact h2
theorem sg_e1_len (ad ra : Nat → Nat) : ∀ (as : List Value), (∀ v ∈ as, v.category = 2 → ∃ x, v = .long x) → (lg_sl (as.map (sg_vm ad ra))).length = (as.flatMap sg_e1).length
  | [], _ => rfl
  | a :: as, hc => by
    have ih := sg_e1_len ad ra as (fun v hv => hc v (List.mem_cons_of_mem _ hv))
    rcases sg_e1_or a with ⟨x, rfl, e⟩ | ⟨ha, e⟩
    · simp only [lg_sl, List.map_cons, List.flatMap_cons, List.length_append, e] at ih ⊢
      rw [ih]
      rfl
    · have hcat : a.category = 1 := by
        rcases lv_cat a with h1 | h1
        · exact h1
        · obtain ⟨x, hx⟩ := hc a List.mem_cons_self h1
          exact absurd hx (ha x)
      simp only [lg_sl, List.map_cons, List.flatMap_cons, List.length_append, e] at ih ⊢
      rw [ih]
      cases a <;> first | rfl | (simp [Value.category] at hcat)
end
section
theorem sg_cat2 {n : Nat} {as : List Value} (h : sg_ws n as) : ∀ v ∈ as, v.category = 2 → ∃ x, v = .long x := by
  intro v hv hc
  have := List.all_eq_true.mp h v hv
  cases v <;> first | exact ⟨_, rfl⟩ | (simp [Value.category] at hc; done) | (simp [sg_wv] at this; done)
theorem sg_wl_en {n nL : Nat} {as : List Value} (h : sg_ws n as) : sg_wl n (sg_en as nL) := by
  unfold sg_en
  apply List.all_eq_true.mpr
  intro o ho
  rcases List.mem_append.mp ho with h1 | h1
  · obtain ⟨v, hv, hm⟩ := List.mem_flatMap.mp h1
    have hw := List.all_eq_true.mp h v hv
    rcases sg_e1_or v with ⟨x, rfl, e⟩ | ⟨-, e⟩
    · rw [e] at hm
      simp only [List.mem_cons, List.not_mem_nil, or_false] at hm
      rcases hm with rfl | rfl
      · rfl
      · rfl
    · rw [e] at hm
      simp only [List.mem_cons, List.not_mem_nil, or_false] at hm
      subst hm
      exact hw
  · rw [List.eq_of_mem_replicate h1]
    rfl
set_option maxHeartbeats 4000000 in
theorem sg_met {X : sg_X} {f : Nat} (IH : sg_Snd X f) {y n : Nat} {lk : Nat → Nat → Bool} {as : List Value} {σ σ' : sg_S} {r : Option Value} {z' : sg_Z} (hy : y < 203) (h : sg_ex X f y 0 (sg_en as (sg_ml y)) [] (n, 0, 0, lk) σ = some (r, z', σ')) (hw : sg_ws n as) (hn : n ≤ 1000) (hLI : sg_LI n lk) (hfit : (as.flatMap sg_e1).length ≤ sg_ml y)
    (l : Launch) (D : va_G) (q : sg_Ci) (ra ad : Nat → Nat) (sz : Nat) : Met l (sg_my y) (sg_wo y) { frames := sg_fr y, cells := z'.2.1, slots := z'.2.2.1, locals := sg_lo y } (sg_Pc X ra q D ad n lk σ as sz) (sg_Qc ra q D ad n lk σ sz r z' σ') z'.2.1 z'.2.2.1 (va_A (sg_wd q ad n lk σ) sz) := by
  have hmw := sg_mw y hy
  simp only [sg_mck, Bool.and_eq_true, decide_eq_true_eq] at hmw
  refine va_MetF (cc := sg_mc y) (maxL := sg_ml y) (ret := sg_mr y) hmw.1.2 rfl ?_
  intro p e s m args below meth c s₁ B hml hv
  obtain ⟨rfl, hsz, hP, hK, hD0, hRO, hnw⟩ := hv
  subst hsz
  have hx := B.exec
  have hb := B.bytes
  have hr := B.returns
  have hts0 := atoms_spec (ws := sg_wo y) B.pre
  have hts : ∀ w ∈ sg_gw, w.before (as.map (sg_vm ad ra)).toArray s = true := fun w hw => hts0 w (List.mem_cons_of_mem _ hw)
  have hown : s.vm.findClass (sg_cn (sg_mo y)) = some m.cls := by
    rw [← hmw.1.1.1.1.2]
    exact findClass_of_methodNamed B.named
  have hlocks := B.notSynchronized
  have hin : meth.name = (sg_my y).name := (name_of_methodNamed B.named B.method).1
  have hD := hD0.self (sz := s.heap.size)
  have hl := lv_entry (as.map (sg_vm ad ra)) (n := sg_ml y) (by rw [sg_e1_len ad ra as (sg_cat2 hw)]; exact hfit)
  rw [lg_entry_eq]
  generalize (lg_sl (as.map (sg_vm ad ra)) ++ List.replicate (sg_ml y - (lg_sl (as.map (sg_vm ad ra))).length) Slot.unset).toArray = arr at hl ⊢
  have hLH : sg_LH ad ra arr (sg_ml y) (sg_en as (sg_ml y)) := by
    refine ⟨hl.1, hl.2.1, fun i v hi => ?_⟩
    unfold sg_en at hi
    by_cases hlt : i < (as.flatMap sg_e1).length
    · rw [List.getElem?_append_left hlt] at hi
      have := hl.2.2 _ (sg_en_get (ad := ad) (ra := ra) as 0 i v hi (sg_cat2 hw))
      simpa using this
    · rw [List.getElem?_append_right (by omega)] at hi
      have := List.eq_of_mem_replicate (List.mem_of_getElem? hi)
      cases this
  have C : sg_Cx p { frames := sg_fr y, cells := z'.2.1, slots := z'.2.2.1, locals := sg_lo y } s m (as.map (sg_vm ad ra)).toArray meth c y (va_A (sg_wd q ad n lk σ) s.heap.size) D q X ra :=
    ⟨hx, hb, hml, hr, hown, hts, hnw, hK, hRO, fun a h => Or.inr h, hlocks, hin, Nat.le_refl _, Nat.le_refl _⟩
  refine IH y 0 _ [] (n, 0, 0, lk) σ r z' σ' h p l e _ s m _ below meth c (va_A (sg_wd q ad n lk σ) s.heap.size) D q ra n ad _ C (Nat.le_refl _) (Nat.le_refl _) ?_ s.heap [] ad arr ⟨hP, hD, va_S.rf, hn, hLI, Nat.le_refl _, fun _ _ => rfl⟩ hLH (sg_wl_en hw) rfl
  intro H locs ad' arr' pcr i nn lsr str hI hd hln hst hws
  obtain ⟨hP9, hD9, hS9, hn9, hL9, -, had9⟩ := hI
  have hq : ∀ (rv : Option Value), rv = r.map (sg_vm ad' ra) → ∀ t : State, t.heap = H → s.WarmedH t.vm → sg_Qc ra q D ad n lk σ s.heap.size r z' σ' (as.map (sg_vm ad ra)).toArray s (.returned rv) t := by
    intro rv hrv t ht _
    subst hrv
    exact ⟨⟨ad', had9, rfl, by rw [ht]; exact hP9, hD9, hL9, hn9⟩, hS9.F ht⟩
  rcases sg_ret_inv hst with ⟨v, rfl, rfl, rfl, h1 | ⟨h1, h2⟩⟩ | ⟨v, rfl, rfl, rfl, h1⟩ | ⟨a, nm, rfl, rfl, rfl, h1⟩ | ⟨rfl, rfl, rfl, h1⟩
  · simp only [sg_ln, beq_iff_eq] at hln
    subst hln
    exact W.iret hx hb (by rw [hr]; exact h1) (hq _ rfl) hS9.2.2 hd
  · simp only [sg_ln, beq_iff_eq] at hln
    subst hln
    exact W.zret hx hb (by rw [hr]; exact h1) (by rcases h2 with rfl | rfl <;> decide) (hq _ rfl) hS9.2.2 hd
  · simp only [sg_ln, beq_iff_eq] at hln
    subst hln
    exact W.lret hx hb (by rw [hr]; exact h1) (hq _ rfl) hS9.2.2 hd
  · simp only [sg_ln, beq_iff_eq] at hln
    subst hln
    exact W.aret hx hb (by rw [hr]; exact h1) (Or.inl ⟨_, rfl⟩) (Or.inr ⟨_, rfl⟩) (hq _ rfl) hS9.2.2 hd
  · simp only [sg_ln, beq_iff_eq] at hln
    subst hln
    exact W.vret hx hb (by rw [hr]; exact h1) (hq _ rfl) hS9.2.2 hd
end
section
theorem sg_wds_vm (ad ra : Nat → Nat) (r : List Value) : ((r.map (sg_vm ad ra)).map fun v => v.category).sum = sg_wds r := by
  rw [List.map_map]
  have : ((fun v : Value => v.category) ∘ sg_vm ad ra) = fun v => v.category := by funext v; exact sg_vm_cat ad ra v
  rw [this]
set_option maxHeartbeats 4000000 in
theorem sg_call {X : sg_X} {f : Nat} (IH : sg_Snd X f) {p : Program} {l : Launch} {e : Env} {R : Room} {s : State} {m : MethodId} {args : Array Value} {below : List Frame} {meth : Method} {c : Code} {M : Nat} {A : Nat → Prop} {D : va_G} {q : sg_Ci} {ra : Nat → Nat} {n0 : Nat} {ad0 : Nat → Nat} {Q : State → Prop}
    {pc pc' y nn : Nat} {ls ls' : sg_L} {st as st' : List Value} {n kc ks : Nat} {lk : Nat → Nat → Bool} {σ σ1 : sg_S} {keep : Bool} {i : Instr} {r : Option Value} {z1 : sg_Z}
    (C : sg_Cx p R s m args meth c M A D q X ra) (hd : decode (sg_mc M) pc = .ok (i, nn)) (hn : sg_ln i nn = true) (h : sg_st X M i pc ls st (n, kc, ks, lk) σ = some (.inr (.inl (y, as, keep, pc', ls', st'))))
    (h1 : sg_ex X f y 0 (sg_en as (sg_ml y)) [] (n, 0, 0, lk) σ = some (r, z1, σ1)) (hr : r.all (sg_wv n) = true) (hnz : n ≤ z1.1) (hlic : (keep || sg_lic n z1.2.2.2) = true) (hfit : (as.flatMap sg_e1).length ≤ sg_ml y)
    (hc1 : kc + z1.2.1 ≤ R.cells) (hc2 : ks + z1.2.2.1 ≤ R.slots)
    (K : sg_OK p l e R s m args below meth c M A D q ra n0 ad0 Q pc' ls' (r.toList ++ st') (cond keep z1.1 n, kc + z1.2.1, ks + z1.2.2.1, z1.2.2.2) σ1) : sg_OK p l e R s m args below meth c M A D q ra n0 ad0 Q pc ls st (n, kc, ks, lk) σ := by
  obtain ⟨hx, hb, hml, hret, hown, hts, hnw, hK, hRO, hA, hlk, hmn, hfr, hlo⟩ := id C
  obtain ⟨rfl, rfl, ⟨hm1, hm2, hy⟩, hwd, hst, hlen, hkind⟩ := sg_call_inv h
  have hmw := sg_mw y hy
  simp only [sg_mck, Bool.and_eq_true, decide_eq_true_eq] at hmw
  obtain ⟨⟨⟨⟨⟨⟨hini, hsi⟩, hcl⟩, hmh⟩, hdesc⟩, hpf⟩, ho⟩ := hmw
  intro H locs ad arr hI hL hw hs
  obtain ⟨hP, hD, hS, hn1, hLI, hn0, had⟩ := id hI
  dsimp only at hP hD hn1 hLI hn0
  have hsa : sg_ws n as ∧ sg_ws n st' := by
    rw [hst, sg_ws, List.all_append, Bool.and_eq_true, List.all_reverse] at hs
    exact hs
  have hfree : ∀ q', va_A (sg_wd q ad n lk σ) H.size q' → A q' := by
    intro q' h
    rcases h with ⟨k, x, h⟩ | h
    · exact hD.2 k _ h
    · exact hA q' (Nat.le_trans hS.1 h)
  have hM := sg_met IH hy h1 hsa.1 hn1 hLI hfit l D q ra ad H.size
  have hRO' : ∀ U : State, U.heap = H → s.WarmedH U.vm → sg_Pc X ra q D ad n lk σ as H.size (as.map (sg_vm ad ra)).toArray U := by
    intro U hU hW
    refine ⟨rfl, by rw [hU], by rw [hU]; exact hP, va_K.moved hW.alike hK, hD.weaken (fun _ _ _ _ => trivial), ?_, sg_nw_warm hW hnw⟩
    rw [hU]
    exact ((hRO.moved hW.alike).kept (fun a h1 h2 => hS.2.1 a h1 h2)).narrow hfree
  have hS5 : CallFix p m c (sg_mc M) (sg_ml M) s args sg_gw (sg_cn (sg_mo M)) := ⟨hx, hb, hml, hown, hts⟩
  have hroom : sg_fr y + 1 ≤ R.frames ∧ 8 + (sg_ml y + 11) + sg_lo y ≤ R.locals := ⟨Nat.le_trans hm1 hfr, Nat.le_trans hm2 hlo⟩
  have hstk : st.map (sg_vm ad ra) = (as.map (sg_vm ad ra)).reverse ++ st'.map (sg_vm ad ra) := by rw [hst, List.map_append, List.map_reverse]
  have hmrm : 2 * (F0 m pc arr (st.map (sg_vm ad ra))).monitorRoom + ((st'.map (sg_vm ad ra)).map fun v => v.category).sum ≤ 8 := by
    rw [sg_wds_vm]
    show 2 * 0 + _ ≤ 8
    omega
  have hkk : ∀ (ad' : Nat → Nat) (H1 : Heap) (locs1 : List Loc), (∀ k, k < n → ad' k = ad k) → va_P D vwCl (sg_wd q ad' z1.1 z1.2.2.2 σ1) H1 → va_D A (sg_wd q ad' z1.1 z1.2.2.2 σ1) → sg_LI z1.1 z1.2.2.2 → z1.1 ≤ 1000 → va_S A s.heap H1 locs1 → W p l e R s m args below meth c H1 locs1 (kc + z1.2.1) (ks + z1.2.2.1) Q (F0 m (pc + 3) arr ((r.map (sg_vm ad' ra)).toList ++ st'.map (sg_vm ad ra))) := by
    intro ad' H1 locs1 hj hP1 hD1 hLI1 hz1 hS1
    have hI1 : sg_In s A D q n0 ad0 ad' (cond keep z1.1 n, kc + z1.2.1, ks + z1.2.2.1, z1.2.2.2) σ1 H1 locs1 := by
      cases keep with
      | true => exact ⟨hP1, hD1, hS1, hz1, hLI1, Nat.le_trans hn0 hnz, fun k hk => by rw [hj k (by omega)]; exact had k hk⟩
      | false =>
        refine ⟨fun k x hk => hP1 k x (sg_wd_less hnz hk), ⟨fun i j a b ha hb => hD1.1 i j a b (sg_wd_less hnz ha) (sg_wd_less hnz hb), fun k x hk => hD1.2 k x (sg_wd_less hnz hk)⟩, hS1, hn1, sg_lic_LI ?_, hn0, fun k hk => by rw [hj k (by omega)]; exact had k hk⟩
        simpa using hlic
    have hle : n ≤ (cond keep z1.1 n) := by cases keep <;> simp <;> omega
    have K1 := K H1 locs1 ad' arr hI1 (sg_LH_ad hn1 hj hw hL) (sg_wl_le hle hw) (by
      rw [sg_ws, List.all_append, Bool.and_eq_true]
      refine ⟨?_, sg_ws_le hle hsa.2⟩
      cases r with
      | none => rfl
      | some v =>
        simp only [Option.toList_some, List.all_cons, List.all_nil, Bool.and_true]
        exact sg_wv_le hle (by simpa using hr))
    rw [List.map_append, sg_map_ad hn1 hj hsa.2] at K1
    cases r <;> exact K1
  have hd3 : decode (sg_mc M) pc = .ok (i, 3) := by
    rcases hkind with ⟨k, kd, pl, rfl, _⟩ | ⟨k, pl, a, as', rfl, _⟩ | ⟨k, kd, pl, a, as', rfl, _⟩ <;>
      (simp only [sg_ln, beq_iff_eq] at hn; subst hn; exact hd)
  rcases hkind with ⟨k, kd, pl, rfl, hf, hkd, rfl⟩ | ⟨k, pl, a, as', rfl, hf, rfl, ha, hk0, hag, rfl⟩ | ⟨k, kd, pl, a, as', rfl, hf, hkd, rfl, rfl⟩
  · have hkc := sg_kl_ok hf
    rcases hkd with rfl | rfl
    · simp only [sg_kck, Bool.and_eq_true, decide_eq_true_eq] at hkc
      obtain ⟨⟨hlink, hsb⟩, -⟩ := hkc
      rw [hsb] at hsi hdesc
      have hn' : (parseMethodDescriptor (sg_my y).desc).map (fun d => d.parameters.length) = some (as.map (sg_vm ad ra)).length := by rw [List.length_map, hlen]; simpa using hdesc
      have cb := callB_of (mc := z1.2.1) (ms := z1.2.2.1) (rm := { frames := sg_fr y, cells := z1.2.1, slots := z1.2.2.1, locals := sg_lo y }) _ hts (sg_wo_in hy) rfl rfl rfl (hts _ (sg_ck_mem hini)) (hts _ (sg_ck_mem hlink)) ⟨hmh.1, hmh.2, hn'⟩ hroom
      exact sg_goes (va_runS (As := as.map (sg_vm ad ra)) hS5 hM ⟨cb, hts _ (sg_ck_mem hsi)⟩ ⟨sg_Pc_blind, hRO'⟩ rfl rfl hL.1 hstk hmrm hd3 ⟨hc1, hc2⟩) hS hfree hkk
    · simp only [sg_kck, Bool.and_eq_true, decide_eq_true_eq] at hkc
      obtain ⟨⟨hlink, hsb⟩, -⟩ := hkc
      rw [hsb] at hsi hdesc
      have hn' : (parseMethodDescriptor (sg_my y).desc).map (fun d => d.parameters.length) = some (as.map (sg_vm ad ra)).length := by rw [List.length_map, hlen]; simpa using hdesc
      have cb := va_cnB (mc := z1.2.1) (ms := z1.2.2.1) (rm := { frames := sg_fr y, cells := z1.2.1, slots := z1.2.2.1, locals := sg_lo y }) _ hts (sg_wo_in hy) rfl rfl rfl (hnw _ hlink) (hts _ (sg_ck_mem hini)) ⟨hmh.1, hmh.2, hn'⟩ hroom
      exact sg_goes (va_runSN (As := as.map (sg_vm ad ra)) hS5 hM ⟨cb, hts _ (sg_ck_mem hsi), trivial⟩ ⟨sg_Pc_blind, hRO'⟩ rfl rfl hL.1 hstk hmrm hd3 ⟨hc1, hc2⟩) hS hfree hkk
  · have hkc := sg_kl_ok hf
    simp only [sg_kck, Bool.and_eq_true, decide_eq_true_eq, Bool.not_eq_true'] at hkc
    obtain ⟨⟨⟨⟨hlink, hsb⟩, hsel⟩, -⟩, hmo⟩ := hkc
    rw [hsb] at hsi hdesc
    have hn' : (parseMethodDescriptor (sg_my y).desc).map (fun d => d.parameters.length) = some (as'.map (sg_vm ad ra)).length := by
      rw [List.length_map]
      rw [← hlen, List.length_cons] at hdesc
      cases hp : parseMethodDescriptor (sg_my y).desc with
      | none => rw [hp] at hdesc; cases hdesc
      | some d => rw [hp] at hdesc; simpa using hdesc
    have cb := callB_of (mc := z1.2.1) (ms := z1.2.2.1) (rm := { frames := sg_fr y, cells := z1.2.1, slots := z1.2.2.1, locals := sg_lo y }) _ hts (sg_wo_in hy) rfl rfl rfl (hts _ (sg_ck_mem hini)) (hts _ (sg_ck_mem hlink)) ⟨hmh.1, hmh.2, hn'⟩ hroom
    have e1 : sg_vm ad ra (.ref a) = .ref (ad a) := sg_vm_ref hn1 ha
    rw [List.map_cons, e1] at hRO'
    rw [List.map_cons, e1, List.reverse_cons, List.append_assoc] at hstk
    have he := sg_wd_get (q := q) (ad := ad) (lk := lk) (σ := σ) ha
    rw [sg_et0 hk0, hag] at he
    have hrecv := va_recv hK hP (sg_vw hmo) he
    have hcn : (sg_cT (sg_mo y)).1 = (sg_my y).cls := by
      rw [hcl]
      exact (show ∀ c, c < 11 → (sg_cT c).1 = sg_cn c by decide +kernel) _ hmo
    rw [hcn] at hrecv
    exact sg_goes (va_runV (As := as'.map (sg_vm ad ra)) hS5 hM ⟨cb, hts _ (sg_ck_mem hsi), hts _ (sg_ck_mem hsel)⟩ ⟨sg_Pc_blind, hrecv, hRO'⟩ rfl rfl hL.1 hstk hmrm hd3 ⟨hc1, hc2⟩) hS hfree hkk
  · have hkc := sg_kl_ok hf
    have hra : n ≤ 1000 ∧ ∃ b, sg_vm ad ra (.ref a) = .ref b := ⟨hn1, _, rfl⟩
    obtain ⟨-, b, e1⟩ := hra
    rw [List.map_cons, e1] at hRO'
    rw [List.map_cons, e1, List.reverse_cons, List.append_assoc] at hstk
    rcases hkd with rfl | rfl
    · simp only [sg_kck, Bool.and_eq_true, decide_eq_true_eq, Bool.not_eq_true'] at hkc
      obtain ⟨⟨⟨⟨hlink, hsb⟩, hnm⟩, hmr⟩, -⟩ := hkc
      rw [hsb] at hsi hdesc
      have hn' : (parseMethodDescriptor (sg_my y).desc).map (fun d => d.parameters.length) = some (as'.map (sg_vm ad ra)).length := by
        rw [List.length_map]
        rw [← hlen, List.length_cons] at hdesc
        cases hp : parseMethodDescriptor (sg_my y).desc with
        | none => rw [hp] at hdesc; cases hdesc
        | some d => rw [hp] at hdesc; simpa using hdesc
      have hw0 : sg_wo y = Cond.code (sg_my y) (sg_mc y) (sg_ml y) none :: sg_gw := by rw [← hmr]; rfl
      have cb := callB_of (mc := z1.2.1) (ms := z1.2.2.1) (rm := { frames := sg_fr y, cells := z1.2.1, slots := z1.2.2.1, locals := sg_lo y }) _ hts (sg_wo_in hy) hw0 rfl rfl (hts _ (sg_ck_mem hini)) (hts _ (sg_ck_mem hlink)) ⟨hmh.1, hmh.2, hn'⟩ hroom
      exact sg_goes (va_runI (As := as'.map (sg_vm ad ra)) hS5 hM ⟨cb, hnm, hts _ (sg_ck_mem hsi)⟩ ⟨sg_Pc_blind, hRO'⟩ rfl rfl hL.1 hstk hmrm hd3 ⟨hc1, hc2⟩) hS hfree hkk
    · simp only [sg_kck, Bool.and_eq_true, decide_eq_true_eq, Bool.not_eq_true'] at hkc
      obtain ⟨⟨⟨⟨hlink, hsb⟩, hnm⟩, hmr⟩, -⟩ := hkc
      rw [hsb] at hsi hdesc
      have hn' : (parseMethodDescriptor (sg_my y).desc).map (fun d => d.parameters.length) = some (as'.map (sg_vm ad ra)).length := by
        rw [List.length_map]
        rw [← hlen, List.length_cons] at hdesc
        cases hp : parseMethodDescriptor (sg_my y).desc with
        | none => rw [hp] at hdesc; cases hdesc
        | some d => rw [hp] at hdesc; simpa using hdesc
      have hw0 : sg_wo y = Cond.code (sg_my y) (sg_mc y) (sg_ml y) none :: sg_gw := by rw [← hmr]; rfl
      have cb := va_cnB (mc := z1.2.1) (ms := z1.2.2.1) (rm := { frames := sg_fr y, cells := z1.2.1, slots := z1.2.2.1, locals := sg_lo y }) _ hts (sg_wo_in hy) hw0 rfl rfl (hnw _ hlink) (hts _ (sg_ck_mem hini)) ⟨hmh.1, hmh.2, hn'⟩ hroom
      exact sg_goes (va_runIN (As := as'.map (sg_vm ad ra)) hS5 hM ⟨cb, hnm, hts _ (sg_ck_mem hsi)⟩ ⟨sg_Pc_blind, hRO'⟩ rfl rfl hL.1 hstk hmrm hd3 ⟨hc1, hc2⟩) hS hfree hkk
set_option maxHeartbeats 4000000 in
/-- THE PLAIN MACHINE IS THE MACHINE -/
theorem sg_main (X : sg_X) : ∀ f, sg_Snd X f
  | 0 => by
    intro M pc ls st z σ r z' σ' h
    cases h
  | f + 1 => by
    have IH := sg_main X f
    intro M pc ls st z σ r z' σ' h p l e R s m args below meth c A D q ra n0 ad0 Q C hc hs hend
    rw [sg_ex] at h
    split at h
    · rename_i i n hd
      split at h
      · rename_i hln
        split at h
        · rename_i pc1 ls1 st1 z1 σ1 h1
          have b := sg_mono f h
          exact sg_step C hd hln h1 ⟨by omega, by omega⟩ (IH M pc1 ls1 st1 z1 σ1 r z' σ' h p l e R s m args below meth c A D q ra n0 ad0 Q C hc hs hend)
        · rename_i y as keep pc1 ls1 st1 h1
          split at h
          · rename_i r1 z1 σ1 h2
            split at h
            · rename_i hcd
              obtain ⟨g1, g2, g3, g4⟩ := hcd
              have b := sg_mono f h
              dsimp only at b
              obtain ⟨nz, kc, ks, lk⟩ := z
              exact sg_call IH C hd hln h1 h2 g1 g2 g3 g4 (by dsimp only at b; omega) (by dsimp only at b; omega) (IH M pc1 ls1 _ _ σ1 r z' σ' h p l e R s m args below meth c A D q ra n0 ad0 Q C hc hs hend)
            · cases h
          · cases h
        · rename_i r1 h1
          simp only [Option.some.injEq, Prod.mk.injEq] at h
          obtain ⟨rfl, rfl, rfl⟩ := h
          intro H locs ad arr hI hL hw hst
          exact hend H locs ad arr pc i n ls st hI hd hln h1 hst
        · cases h
      · cases h
    · cases h
end
section
/-! the plain machine, backwards: what must hold so that a run comes to Q; nothing is made on the way -/
def sg_LK : Nat → Nat → Bool := fun _ _ => true
abbrev sg_zn (n : Nat) : sg_Z := (n, 0, 0, sg_LK)
def sg_wq (X : sg_X) (n M pc : Nat) (ls : sg_L) (st : List Value) (σ : sg_S) (Q : Option Value → sg_S → Prop) : Prop :=
  ∃ (f : Nat) (r : Option Value) (σ' : sg_S), sg_ex X f M pc ls st (sg_zn n) σ = some (r, sg_zn n, σ') ∧ r.all (sg_wv n) = true ∧ Q r σ'
theorem sg_fuel {X : sg_X} : ∀ (f : Nat) {M pc : Nat} {ls : sg_L} {st : List Value} {z : sg_Z} {σ : sg_S} {r : Option Value × sg_Z × sg_S}, sg_ex X f M pc ls st z σ = some r → ∀ g, f ≤ g → sg_ex X g M pc ls st z σ = some r
  | 0, M, pc, ls, st, z, σ, r, h, g, _ => by cases h
  | f + 1, M, pc, ls, st, z, σ, r, h, 0, hg => by omega
  | f + 1, M, pc, ls, st, z, σ, r, h, g + 1, hg => by
    rw [sg_ex] at h ⊢
    split at h
    · rename_i i n hd
      split at h
      · rename_i hln
        rw [if_pos hln]
        split at h
        · rename_i h1
          exact sg_fuel f h g (by omega)
        · rename_i y as keep pc1 ls1 st1 h1
          split at h
          · rename_i r1 z1 σ1 h2
            rw [sg_fuel f h2 g (by omega)]
            dsimp only
            split at h
            · rename_i hc
              rw [if_pos hc]
              exact sg_fuel f h g (by omega)
            · cases h
          · cases h
        · exact h
        · cases h
      · cases h
    · cases h
/-- what one step leaves to show -/
def sg_wk (X : sg_X) (n M : Nat) (σ : sg_S) (Q : Option Value → sg_S → Prop) (o : Option sg_R) : Prop := match o with
  | some (.inl (pc, ls, st, z, σ')) => z = sg_zn n ∧ sg_wq X n M pc ls st σ' Q
  | some (.inr (.inl (y, as, keep, pc, ls, st))) => keep = false ∧ sg_lic n sg_LK = true ∧ (as.flatMap sg_e1).length ≤ sg_ml y ∧ sg_wq X n y 0 (sg_en as (sg_ml y)) [] σ (fun r σ1 => sg_wq X n M pc ls (r.toList ++ st) σ1 Q)
  | some (.inr (.inr r)) => r.all (sg_wv n) = true ∧ Q r σ
  | none => False
theorem sg_wq_one {X : sg_X} {n M pc : Nat} {ls : sg_L} {st : List Value} {σ : sg_S} {Q : Option Value → sg_S → Prop} {i : Instr} {len : Nat} (hd : decode (sg_mc M) pc = .ok (i, len)) (hl : sg_ln i len = true) (h : sg_wk X n M σ Q (sg_st X M i pc ls st (sg_zn n) σ)) : sg_wq X n M pc ls st σ Q := by
  cases hs : sg_st X M i pc ls st (sg_zn n) σ with
  | none => rw [hs] at h; exact h.elim
  | some o =>
    rw [hs] at h
    match o, h, hs with
    | .inl (pc', ls', st', z', σ'), h, hs =>
      obtain ⟨rfl, f, r, σ1, h1, h2, h3⟩ := h
      refine ⟨f + 1, r, σ1, ?_, h2, h3⟩
      rw [sg_ex, hd]
      dsimp only
      rw [if_pos hl, hs]
      exact h1
    | .inr (.inl (y, as, keep, pc', ls', st')), h, hs =>
      obtain ⟨rfl, hlic, hfit, f, r, σ1, h1, h2, f2, r2, σ2, h3, h4, h5⟩ := h
      refine ⟨f + f2 + 1, r2, σ2, ?_, h4, h5⟩
      rw [sg_ex, hd]
      dsimp only
      rw [if_pos hl, hs]
      dsimp only
      rw [sg_fuel f h1 (f + f2) (by omega)]
      dsimp only
      rw [if_pos ⟨h2, Nat.le_refl _, by simpa using hlic, hfit⟩]
      exact sg_fuel f2 h3 (f + f2) (by omega)
    | .inr (.inr r), h, hs =>
      refine ⟨1, r, σ, ?_, h.1, h.2⟩
      rw [sg_ex, hd]
      dsimp only
      rw [if_pos hl, hs]
theorem sg_wq_mono {X : sg_X} {n M pc : Nat} {ls : sg_L} {st : List Value} {σ : sg_S} {Q Q' : Option Value → sg_S → Prop} (h : sg_wq X n M pc ls st σ Q) (hQ : ∀ r σ', Q r σ' → Q' r σ') : sg_wq X n M pc ls st σ Q' := by
  obtain ⟨f, r, σ', h1, h2, h3⟩ := h
  exact ⟨f, r, σ', h1, h2, hQ r σ' h3⟩
/-- one instruction, as a condition -/
def sg_sp (X : sg_X) (n m : Nat) (i : Instr) (pc : Nat) (ls : sg_L) (st : List Value) (σ : sg_S) (K : Nat → sg_L → List Value → sg_S → Prop) (KC : Nat → List Value → Nat → sg_L → List Value → Prop) (KR : Option Value → Prop) : Prop :=
  match i with
  | .iconst k => K (pc + 1) ls (.int (Int32.ofInt k) :: st) σ
  | .bipush k => K (pc + 2) ls (.int (Int8.ofInt k).toInt32 :: st) σ
  | .sipush k => K (pc + 3) ls (.int (Int16.ofInt k).toInt32 :: st) σ
  | .lconst k => K (pc + 1) ls (.long (Int64.ofNat k) :: st) σ
  | .ldc k => match sg_il (sg_mo m) k with
    | some e => K (pc + 2) ls (.int e.1 :: st) σ
    | none => False
  | .ldc_w k => match sg_il (sg_mo m) k with
    | some e => K (pc + 3) ls (.int e.1 :: st) σ
    | none => False
  | .ldc2_w k => match sg_jl (sg_mo m) k with
    | some e => K (pc + 3) ls (.long e.1 :: st) σ
    | none => False
  | .iload k => match ls[k]? with
    | some (some (.int x)) => K (pc + 2) ls (.int x :: st) σ
    | _ => False
  | .iload_n k => match ls[k.val]? with
    | some (some (.int x)) => K (pc + 1) ls (.int x :: st) σ
    | _ => False
  | .lload k => match ls[k]? with
    | some (some (.long x)) => K (pc + 2) ls (.long x :: st) σ
    | _ => False
  | .lload_n k => match ls[k.val]? with
    | some (some (.long x)) => K (pc + 1) ls (.long x :: st) σ
    | _ => False
  | .aload k => match ls[k]? with
    | some (some (.ref x)) => K (pc + 2) ls (.ref x :: st) σ
    | _ => False
  | .aload_n k => match ls[k.val]? with
    | some (some (.ref x)) => K (pc + 1) ls (.ref x :: st) σ
    | _ => False
  | .istore k => match st with
    | .int x :: r => if k < sg_ml m then K (pc + 2) (sg_s1 ls k (.int x)) r σ else False
    | _ => False
  | .istore_n k => match st with
    | .int x :: r => if k.val < sg_ml m then K (pc + 1) (sg_s1 ls k.val (.int x)) r σ else False
    | _ => False
  | .lstore k => match st with
    | .long x :: r => if k + 1 < sg_ml m then K (pc + 2) (sg_s2 ls k (.long x)) r σ else False
    | _ => False
  | .lstore_n k => match st with
    | .long x :: r => if k.val + 1 < sg_ml m then K (pc + 1) (sg_s2 ls k.val (.long x)) r σ else False
    | _ => False
  | .astore k => match st with
    | .ref x :: r => if k < sg_ml m then K (pc + 2) (sg_s1 ls k (.ref x)) r σ else False
    | _ => False
  | .astore_n k => match st with
    | .ref x :: r => if k.val < sg_ml m then K (pc + 1) (sg_s1 ls k.val (.ref x)) r σ else False
    | _ => False
  | .iinc k c => match ls[k]? with
    | some (some (.int x)) => if k < sg_ml m then K (pc + 3) (sg_s1 ls k (.int (x + Int32.ofInt c))) st σ else False
    | _ => False
  | .iadd => match st with
    | .int y :: .int x :: r => K (pc + 1) ls (.int (x + y) :: r) σ
    | _ => False
  | .isub => match st with
    | .int y :: .int x :: r => K (pc + 1) ls (.int (x - y) :: r) σ
    | _ => False
  | .imul => match st with
    | .int y :: .int x :: r => K (pc + 1) ls (.int (x * y) :: r) σ
    | _ => False
  | .iand => match st with
    | .int y :: .int x :: r => K (pc + 1) ls (.int (x &&& y) :: r) σ
    | _ => False
  | .ior => match st with
    | .int y :: .int x :: r => K (pc + 1) ls (.int (x ||| y) :: r) σ
    | _ => False
  | .ixor => match st with
    | .int y :: .int x :: r => K (pc + 1) ls (.int (x ^^^ y) :: r) σ
    | _ => False
  | .ishl => match st with
    | .int y :: .int x :: r => K (pc + 1) ls (.int (x <<< (y &&& 31)) :: r) σ
    | _ => False
  | .ishr => match st with
    | .int y :: .int x :: r => K (pc + 1) ls (.int (x >>> (y &&& 31)) :: r) σ
    | _ => False
  | .iushr => match st with
    | .int y :: .int x :: r => K (pc + 1) ls (.int (x.toUInt32 >>> (y.toUInt32 &&& Int32.toUInt32 31)).toInt32 :: r) σ
    | _ => False
  | .idiv => match st with
    | .int y :: .int x :: r => ¬ y = 0 ∧ K (pc + 1) ls (.int (x / y) :: r) σ
    | _ => False
  | .irem => match st with
    | .int y :: .int x :: r => ¬ y = 0 ∧ K (pc + 1) ls (.int (x - x / y * y) :: r) σ
    | _ => False
  | .ineg => match st with
    | .int x :: r => K (pc + 1) ls (.int (-x) :: r) σ
    | _ => False
  | .i2b => match st with
    | .int x :: r => K (pc + 1) ls (.int x.toInt8.toInt32 :: r) σ
    | _ => False
  | .i2s => match st with
    | .int x :: r => K (pc + 1) ls (.int x.toInt16.toInt32 :: r) σ
    | _ => False
  | .i2l => match st with
    | .int x :: r => K (pc + 1) ls (.long x.toInt64 :: r) σ
    | _ => False
  | .ladd => match st with
    | .long y :: .long x :: r => K (pc + 1) ls (.long (x + y) :: r) σ
    | _ => False
  | .lmul => match st with
    | .long y :: .long x :: r => K (pc + 1) ls (.long (x * y) :: r) σ
    | _ => False
  | .lcmp => match st with
    | .long y :: .long x :: r => K (pc + 1) ls (.int (lg_cmp x y) :: r) σ
    | _ => False
  | .pop => match st with
    | v :: r => if v.category = 1 then K (pc + 1) ls r σ else False
    | _ => False
  | .dup => match st with
    | v :: r => if v.category = 1 then K (pc + 1) ls (v :: v :: r) σ else False
    | _ => False
  | .dup2 => match st with
    | v :: w :: r => if v.category = 1 ∧ w.category = 1 then K (pc + 1) ls (v :: w :: v :: w :: r) σ else False
    | _ => False
  | .goto off => if 0 ≤ (pc : Int) + off then K (sg_tg pc off) ls st σ else False
  | .ifCond c off => match st with
    | .int x :: r => if 0 ≤ (pc : Int) + off then (match c with
      | .eq => if x = 0 then K (sg_tg pc off) ls r σ else K (pc + 3) ls r σ
      | .ne => if x = 0 then K (pc + 3) ls r σ else K (sg_tg pc off) ls r σ
      | .lt => if x < 0 then K (sg_tg pc off) ls r σ else K (pc + 3) ls r σ
      | .ge => if x < 0 then K (pc + 3) ls r σ else K (sg_tg pc off) ls r σ
      | .gt => if 0 < x then K (sg_tg pc off) ls r σ else K (pc + 3) ls r σ
      | .le => if 0 < x then K (pc + 3) ls r σ else K (sg_tg pc off) ls r σ) else False
    | _ => False
  | .if_icmp c off => match st with
    | .int y :: .int x :: r => if 0 ≤ (pc : Int) + off then (match c with
      | .eq => if x = y then K (sg_tg pc off) ls r σ else K (pc + 3) ls r σ
      | .ne => if x = y then K (pc + 3) ls r σ else K (sg_tg pc off) ls r σ
      | .lt => if x < y then K (sg_tg pc off) ls r σ else K (pc + 3) ls r σ
      | .ge => if x < y then K (pc + 3) ls r σ else K (sg_tg pc off) ls r σ
      | .gt => if y < x then K (sg_tg pc off) ls r σ else K (pc + 3) ls r σ
      | .le => if y < x then K (pc + 3) ls r σ else K (sg_tg pc off) ls r σ) else False
    | _ => False
  | .tableswitch d lo hi offs => match st with
    | .int x :: r => if x.toInt < lo ∨ hi < x.toInt then (0 ≤ (pc : Int) + d ∧ K (sg_tg pc d) ls r σ) else
      match offs[(x.toInt - lo).toNat]? with
      | some off => 0 ≤ (pc : Int) + off ∧ K (sg_tg pc off) ls r σ
      | none => False
    | _ => False
  | .getfield k => match st with
    | .ref a :: r => match sg_fl (sg_mo m) k with
      | some (ci, j, _) => if a < n ∧ sg_kd a = 0 ∧ sg_ag a = ci then
          (if sg_rb ci j = true then (if sg_rf a j < n then K (pc + 3) ls (.ref (sg_rf a j) :: r) σ else False)
           else K (pc + 3) ls (.int (σ a j) :: r) σ) else False
      | none => False
    | _ => False
  | .putfield k => match st with
    | .int v :: .ref a :: r => match sg_fl (sg_mo m) k with
      | some (ci, j, _) => if a < n ∧ sg_kd a = 0 ∧ sg_ag a = ci ∧ sg_rb ci j = false ∧ sg_fb ci j = false then K (pc + 3) ls r (sg_up σ a j v) else False
      | none => False
    | _ => False
  | .getstatic k => match sg_gl (sg_mo m) k with
    | some (q, _) => if q < 3 then K (pc + 3) ls (.ref (1000 + q) :: st) σ else False
    | none => False
  | .iaload => match st with
    | .int i :: .ref a :: r => if 1000 ≤ a then (if a < 1004 then (sg_in i (sg_ro X (a - 1000)).1 ∧ K (pc + 1) ls (.int ((sg_ro X (a - 1000)).2 i.toNatClampNeg) :: r) σ) else False)
      else if a < n ∧ sg_kd a = 1 then (sg_in i (sg_ag a) ∧ K (pc + 1) ls (.int (σ a i.toNatClampNeg) :: r) σ) else False
    | _ => False
  | .iastore => match st with
    | .int v :: .int i :: .ref a :: r => if a < n ∧ sg_kd a = 1 then (sg_in i (sg_ag a) ∧ K (pc + 1) ls r (sg_up σ a i.toNatClampNeg v)) else False
    | _ => False
  | .baload => match st with
    | .int i :: .ref a :: r => if a < n ∧ sg_kd a = 2 then (sg_in i (sg_ag a) ∧ K (pc + 1) ls (.int (σ a i.toNatClampNeg) :: r) σ) else False
    | _ => False
  | .bastore => match st with
    | .int v :: .int i :: .ref a :: r => if a < n ∧ sg_kd a = 2 then (sg_in i (sg_ag a) ∧ (v = 0 ∨ v = 1) ∧ K (pc + 1) ls r (sg_up σ a i.toNatClampNeg v)) else False
    | _ => False
  | .aaload => match st with
    | .int i :: .ref a :: r => if a < n ∧ sg_kd a = 3 then (sg_in i (sg_ag a) ∧ sg_rf a i.toNatClampNeg < n ∧ K (pc + 1) ls (.ref (sg_rf a i.toNatClampNeg) :: r) σ) else False
    | _ => False
  | .arraylength => match st with
    | .ref a :: r => if 1000 ≤ a then (if a < 1004 then K (pc + 1) ls (.int (Int32.ofNat (sg_ro X (a - 1000)).1) :: r) σ else False)
      else if a < n ∧ sg_kd a = 1 then K (pc + 1) ls (.int (Int32.ofNat (sg_ag a)) :: r) σ else False
    | _ => False
  | .invokestatic k => match sg_kl (sg_mo m) k with
    | some (7, _, _) => match st with
      | .int c :: .int dp :: .ref d :: .int sp :: .ref s :: r =>
        if s < n ∧ d < n ∧ sg_kd s = 1 ∧ sg_kd d = 1 ∧ sg_wds r ≤ 8 ∧ 1 ≤ sg_fr m ∧ 30 ≤ sg_lo m then
          (0 ≤ sp.toInt ∧ 0 ≤ dp.toInt ∧ 0 ≤ c.toInt ∧ sp.toInt + c.toInt ≤ sg_ag s ∧ dp.toInt + c.toInt ≤ sg_ag d ∧
          K (pc + 3) ls r (va_up σ d (va_cpy (σ s) (σ d) sp.toNatClampNeg dp.toNatClampNeg c.toNatClampNeg))) else False
      | _ => False
    | some (kd, y, _) => if (kd = 1 ∨ kd = 4) ∧ sg_ac y ≤ st.length ∧ sg_wds (st.drop (sg_ac y)) ≤ 8 ∧ sg_rm m y ∧ ((st.take (sg_ac y)).reverse.flatMap sg_e1).length ≤ sg_ml y then KC y (st.take (sg_ac y)).reverse (pc + 3) ls (st.drop (sg_ac y)) else False
    | none => False
  | .invokevirtual k => match sg_kl (sg_mo m) k with
    | some (2, y, _) => if sg_ac y ≤ st.length ∧ sg_wds (st.drop (sg_ac y)) ≤ 8 ∧ sg_rm m y ∧ ((st.take (sg_ac y)).reverse.flatMap sg_e1).length ≤ sg_ml y then
        match (st.take (sg_ac y)).reverse with
        | .ref a :: as => if a < n ∧ sg_kd a = 0 ∧ sg_ag a = sg_mo y then KC y (.ref a :: as) (pc + 3) ls (st.drop (sg_ac y)) else False
        | _ => False
      else False
    | _ => False
  | .ireturn => match st, sg_mr m with
    | [.int v], some .int => KR (some (.int v))
    | [.int v], some .boolean => (v = 0 ∨ v = 1) ∧ KR (some (.int v))
    | _, _ => False
  | .lreturn => match st, sg_mr m with
    | [.long v], some .long => KR (some (.long v))
    | _, _ => False
  | .areturn => match st, sg_mr m with
    | [.ref a], some (.object _) => a < n ∧ KR (some (.ref a))
    | _, _ => False
  | .return_ => match st, sg_mr m with
    | [], none => KR none
    | _, _ => False
  | _ => False
end
section
theorem sg_lic127 : sg_lic 127 sg_LK = true := by decide +kernel
abbrev sg_KC (X : sg_X) (n M : Nat) (Q : Option Value → sg_S → Prop) (σ : sg_S) : Nat → List Value → Nat → sg_L → List Value → Prop := fun y as pc ls st => sg_wq X n y 0 (sg_en as (sg_ml y)) [] σ (fun r σ1 => sg_wq X n M pc ls (r.toList ++ st) σ1 Q)
theorem sg_nlt {x y : Int32} (h : ¬ x < y) : y ≤ x := by
  rw [Int32.le_iff_toInt_le]
  rw [Int32.lt_iff_toInt_lt] at h
  omega
theorem sg_lt_nle {x y : Int32} (h : x < y) : ¬ y ≤ x := by
  rw [Int32.le_iff_toInt_le]
  rw [Int32.lt_iff_toInt_lt] at h
  omega
set_option maxHeartbeats 4000000 in
theorem sg_sp_wk {X : sg_X} {n M pc : Nat} {ls : sg_L} {st : List Value} {σ : sg_S} {Q : Option Value → sg_S → Prop} {i : Instr} (hlic : sg_lic n sg_LK = true)
    (h : sg_sp X n M i pc ls st σ (fun pc ls st σ => sg_wq X n M pc ls st σ Q) (sg_KC X n M Q σ) (fun r => Q r σ)) : sg_wk X n M σ Q (sg_st X M i pc ls st (sg_zn n) σ) := by
  cases i with
  | aaload =>
    simp only [sg_sp] at h
    split at h
    · split at h
      · rename_i hc
        simp only [sg_st]
        rw [if_pos ⟨hc.1, hc.2, h.1, rfl, h.2.1⟩]
        exact ⟨rfl, h.2.2⟩
      · exact h.elim
    · exact h.elim
  | arraylength =>
    simp only [sg_sp] at h
    split at h
    · split at h
      · rename_i h1
        split at h
        · rename_i h2
          simp only [sg_st]
          rw [if_pos h1, if_pos h2]
          exact ⟨rfl, h⟩
        · exact h.elim
      · rename_i h1
        split at h
        · rename_i h2
          simp only [sg_st]
          rw [if_neg h1, if_pos h2]
          exact ⟨rfl, h⟩
        · exact h.elim
    · exact h.elim
  | baload =>
    simp only [sg_sp] at h
    split at h
    · split at h
      · rename_i hc
        simp only [sg_st]
        rw [if_pos ⟨hc.1, hc.2, h.1⟩]
        exact ⟨rfl, h.2⟩
      · exact h.elim
    · exact h.elim
  | bastore =>
    simp only [sg_sp] at h
    split at h
    · split at h
      · rename_i hc
        simp only [sg_st]
        rw [if_pos ⟨hc.1, hc.2, h.1, h.2.1⟩]
        exact ⟨rfl, h.2.2⟩
      · exact h.elim
    · exact h.elim
  | iaload =>
    simp only [sg_sp] at h
    split at h
    · split at h
      · rename_i h1
        split at h
        · rename_i h2
          simp only [sg_st]
          rw [if_pos h1, if_pos ⟨h2, h.1⟩]
          exact ⟨rfl, h.2⟩
        · exact h.elim
      · rename_i h1
        split at h
        · rename_i h2
          simp only [sg_st]
          rw [if_neg h1, if_pos ⟨h2.1, h2.2, h.1⟩]
          exact ⟨rfl, h.2⟩
        · exact h.elim
    · exact h.elim
  | iastore =>
    simp only [sg_sp] at h
    split at h
    · split at h
      · rename_i hc
        simp only [sg_st]
        rw [if_pos ⟨hc.1, hc.2, h.1⟩]
        exact ⟨rfl, h.2⟩
      · exact h.elim
    · exact h.elim
  | ifCond cd off =>
    simp only [sg_sp] at h
    split at h
    · rename_i x r
      split at h
      · rename_i h0
        simp only [sg_st, sg_jp]
        rw [if_pos h0]
        refine ⟨rfl, ?_⟩
        cases cd <;> simp only [sg_cmp] at h ⊢ <;> split at h <;> rename_i hx
        · rw [decide_eq_true hx]; exact h
        · rw [decide_eq_false hx]; exact h
        · rw [decide_eq_true hx]; exact h
        · rw [decide_eq_false hx]; exact h
        · rw [decide_eq_true hx]; exact h
        · rw [decide_eq_false hx]; exact h
        · rw [decide_eq_false (sg_lt_nle hx)]; exact h
        · rw [decide_eq_true (sg_nlt hx)]; exact h
        · rw [decide_eq_true hx]; exact h
        · rw [decide_eq_false hx]; exact h
        · rw [decide_eq_false (sg_lt_nle hx)]; exact h
        · rw [decide_eq_true (sg_nlt hx)]; exact h
      · exact h.elim
    · exact h.elim
  | if_icmp cd off =>
    simp only [sg_sp] at h
    split at h
    · rename_i y x r
      split at h
      · rename_i h0
        simp only [sg_st, sg_jp]
        rw [if_pos h0]
        refine ⟨rfl, ?_⟩
        cases cd <;> simp only [sg_cmp] at h ⊢ <;> split at h <;> rename_i hx
        · rw [decide_eq_true hx]; exact h
        · rw [decide_eq_false hx]; exact h
        · rw [decide_eq_true hx]; exact h
        · rw [decide_eq_false hx]; exact h
        · rw [decide_eq_true hx]; exact h
        · rw [decide_eq_false hx]; exact h
        · rw [decide_eq_false (sg_lt_nle hx)]; exact h
        · rw [decide_eq_true (sg_nlt hx)]; exact h
        · rw [decide_eq_true hx]; exact h
        · rw [decide_eq_false hx]; exact h
        · rw [decide_eq_false (sg_lt_nle hx)]; exact h
        · rw [decide_eq_true (sg_nlt hx)]; exact h
      · exact h.elim
    · exact h.elim
  | invokestatic k =>
    simp only [sg_sp] at h
    simp only [sg_st]
    split at h
    · rename_i hk
      rw [hk]
      split at h
      · split at h
        · rename_i hc
          dsimp only
          rw [if_pos ⟨hc.1, hc.2.1, hc.2.2.1, hc.2.2.2.1, h.1, h.2.1, h.2.2.1, h.2.2.2.1, h.2.2.2.2.1, hc.2.2.2.2.1, hc.2.2.2.2.2.1, hc.2.2.2.2.2.2⟩]
          exact ⟨rfl, h.2.2.2.2.2⟩
        · exact h.elim
      · exact h.elim
    · rename_i kd y pl hne hk
      split at h
      · rename_i hc
        rw [hk]
        have hk7 : ¬ kd = 7 := by omega
        split
        · rename_i h7
          simp only [Option.some.injEq, Prod.mk.injEq] at h7
          exact absurd h7.1 hk7
        · rename_i kd' y' pl' hne' heq
          simp only [Option.some.injEq, Prod.mk.injEq] at heq
          obtain ⟨rfl, rfl, rfl⟩ := heq
          rw [if_pos ⟨hc.1, hc.2.1, hc.2.2.1, hc.2.2.2.1⟩]
          exact ⟨rfl, hlic, hc.2.2.2.2, h⟩
        · rename_i heq
          cases heq
      · exact h.elim
    · exact h.elim
  | invokevirtual k =>
    simp only [sg_sp] at h
    simp only [sg_st]
    split at h
    · rename_i y pl hk
      split at h
      · rename_i hc
        split at h
        · rename_i a as hrev
          split at h
          · rename_i hc2
            rw [hk]
            split
            · rename_i h8
              simp at h8
            · rename_i kd' y' pl' hne' heq
              simp only [Option.some.injEq, Prod.mk.injEq] at heq
              obtain ⟨rfl, rfl, rfl⟩ := heq
              rw [if_pos ⟨rfl, hc.1, hc.2.1, hc.2.2.1⟩, hrev]
              show sg_wk X n M σ Q (if a < n ∧ sg_kd a = 0 ∧ sg_ag a = sg_mo y then _ else none)
              rw [if_pos hc2]
              refine ⟨rfl, hlic, ?_, h⟩
              have := hc.2.2.2
              rw [hrev] at this
              exact this
            · rename_i heq
              cases heq
          · exact h.elim
        · exact h.elim
      · exact h.elim
    · exact h.elim
  | tableswitch d lo hi offs =>
    simp only [sg_sp] at h
    split at h
    · simp only [sg_st]
      split at h
      · rename_i hc
        rw [if_pos hc, if_pos h.1]
        exact ⟨rfl, h.2⟩
      · rename_i hc
        rw [if_neg hc]
        split at h
        · rename_i off ho
          rw [ho]
          dsimp only
          rw [if_pos h.1]
          exact ⟨rfl, h.2⟩
        · exact h.elim
    · exact h.elim
  | _ =>
    simp only [sg_sp] at h <;> first
    | exact h.elim
    | (simp only [sg_st, sg_nx, sg_ldi, sg_ldl, sg_lda, sg_sti, sg_stl, sg_sta, sg_i1, sg_i2, sg_l2, sg_jp]
       (repeat' split at h) <;> first
         | exact h.elim
         | (simp_all [sg_wk, sg_zn, sg_LK, sg_cmp, sg_wv]; done))
/-- instructions that go on to the next one -/
def sg_sf (i : Instr) : Bool := match i with
  | .goto _ | .ifCond _ _ | .if_icmp _ _ | .tableswitch _ _ _ _ | .invokestatic _ | .invokevirtual _ | .invokespecial _ | .ireturn | .lreturn | .areturn | .return_ => false
  | _ => true
set_option maxHeartbeats 4000000 in
theorem sg_sp_mono {X : sg_X} {n M pc len : Nat} {ls : sg_L} {st : List Value} {σ : sg_S} {i : Instr} {K K' : Nat → sg_L → List Value → sg_S → Prop} {KC : Nat → List Value → Nat → sg_L → List Value → Prop} {KR : Option Value → Prop} (hs : sg_sf i = true) (hl : sg_ln i len = true) (hK : ∀ ls st σ, K (pc + len) ls st σ → K' (pc + len) ls st σ)
    (h : sg_sp X n M i pc ls st σ K KC KR) : sg_sp X n M i pc ls st σ K' KC KR := by
  cases i with
  | aaload =>
    simp only [sg_ln, beq_iff_eq] at hl
    subst hl
    simp only [sg_sp] at h ⊢
    split at h
    · split at h
      · rename_i hc
        rw [if_pos hc]
        exact ⟨h.1, h.2.1, hK _ _ _ h.2.2⟩
      · exact h.elim
    · exact h.elim
  | baload =>
    simp only [sg_ln, beq_iff_eq] at hl
    subst hl
    simp only [sg_sp] at h ⊢
    split at h
    · split at h
      · rename_i hc
        rw [if_pos hc]
        exact ⟨h.1, hK _ _ _ h.2⟩
      · exact h.elim
    · exact h.elim
  | bastore =>
    simp only [sg_ln, beq_iff_eq] at hl
    subst hl
    simp only [sg_sp] at h ⊢
    split at h
    · split at h
      · rename_i hc
        rw [if_pos hc]
        exact ⟨h.1, h.2.1, hK _ _ _ h.2.2⟩
      · exact h.elim
    · exact h.elim
  | iastore =>
    simp only [sg_ln, beq_iff_eq] at hl
    subst hl
    simp only [sg_sp] at h ⊢
    split at h
    · split at h
      · rename_i hc
        rw [if_pos hc]
        exact ⟨h.1, hK _ _ _ h.2⟩
      · exact h.elim
    · exact h.elim
  | iaload =>
    simp only [sg_ln, beq_iff_eq] at hl
    subst hl
    simp only [sg_sp] at h ⊢
    split at h
    · split at h
      · rename_i h1
        rw [if_pos h1]
        split at h
        · rename_i h2
          rw [if_pos h2]
          exact ⟨h.1, hK _ _ _ h.2⟩
        · exact h.elim
      · rename_i h1
        rw [if_neg h1]
        split at h
        · rename_i h2
          rw [if_pos h2]
          exact ⟨h.1, hK _ _ _ h.2⟩
        · exact h.elim
    · exact h.elim
  | arraylength =>
    simp only [sg_ln, beq_iff_eq] at hl
    subst hl
    simp only [sg_sp] at h ⊢
    split at h
    · split at h
      · rename_i h1
        rw [if_pos h1]
        split at h
        · rename_i h2
          rw [if_pos h2]
          exact hK _ _ _ h
        · exact h.elim
      · rename_i h1
        rw [if_neg h1]
        split at h
        · rename_i h2
          rw [if_pos h2]
          exact hK _ _ _ h
        · exact h.elim
    · exact h.elim
  | _ =>
    first
    | (simp [sg_sf] at hs; done)
    | (simp only [sg_ln, beq_iff_eq] at hl
       subst hl
       simp only [sg_sp] at h ⊢ <;> first
       | exact h.elim
       | exact hK _ _ _ h
       | ((repeat' split at h) <;> first
           | exact h.elim
           | (simp_all; done)
           | exact hK _ _ _ h
           | exact ⟨h.1, hK _ _ _ h.2⟩
           | exact ⟨h.1, h.2.1, hK _ _ _ h.2.2⟩))
/-- a block: the instructions in a row -/
def sg_sq (X : sg_X) (n M : Nat) (Q : Option Value → sg_S → Prop) : List Instr → Nat → sg_L → List Value → sg_S → Prop
  | [], pc, ls, st, σ => sg_wq X n M pc ls st σ Q
  | i :: is, pc, ls, st, σ => sg_sp X n M i pc ls st σ (sg_sq X n M Q is) (sg_KC X n M Q σ) (fun r => Q r σ)
def sg_dq (b : ByteArray) : List Instr → Nat → Bool
  | [], _ => true
  | i :: is, pc => match decode b pc with
    | .ok (j, n) => decide (j = i) && sg_ln i n && (is.isEmpty || sg_sf i) && sg_dq b is (pc + n)
    | _ => false
theorem sg_sq_wq {X : sg_X} {n M : Nat} {Q : Option Value → sg_S → Prop} (hlic : sg_lic n sg_LK = true) : ∀ (is : List Instr) {pc : Nat} {ls : sg_L} {st : List Value} {σ : sg_S}, sg_dq (sg_mc M) is pc = true → sg_sq X n M Q is pc ls st σ → sg_wq X n M pc ls st σ Q
  | [], pc, ls, st, σ, _, h => h
  | i :: is, pc, ls, st, σ, hd, h => by
    rw [sg_dq] at hd
    split at hd
    · rename_i j len hdec
      simp only [Bool.and_eq_true, Bool.or_eq_true, decide_eq_true_eq] at hd
      obtain ⟨⟨⟨rfl, hln⟩, hsf⟩, hrest⟩ := hd
      refine sg_wq_one hdec hln (sg_sp_wk hlic ?_)
      rcases hsf with he | hsf
      · rw [List.isEmpty_iff] at he
        subst he
        exact h
      · exact sg_sp_mono hsf hln (fun ls st σ h => sg_sq_wq hlic is hrest h) h
    · cases hd
theorem sg_blk {X : sg_X} {M : Nat} {Q : Option Value → sg_S → Prop} (is : List Instr) {pc : Nat} {ls : sg_L} {st : List Value} {σ : sg_S} (hd : sg_dq (sg_mc M) is pc = true) (h : sg_sq X 127 M Q is pc ls st σ) : sg_wq X 127 M pc ls st σ Q := sg_sq_wq sg_lic127 is hd h
end
section
/-! locals may be forgotten -/
def sg_lb : sg_L → sg_L → Prop
  | [], [] => True
  | a :: l, b :: l' => (a = none ∨ a = b) ∧ sg_lb l l'
  | _, _ => False
theorem sg_lb_rf : ∀ (l : sg_L), sg_lb l l
  | [] => trivial
  | _ :: l => ⟨Or.inr rfl, sg_lb_rf l⟩
theorem sg_lb_get : ∀ {l l' : sg_L} {k : Nat} {v : Value}, sg_lb l l' → l[k]? = some (some v) → l'[k]? = some (some v)
  | [], [], k, v, _, h => by simp at h
  | a :: l, b :: l', 0, v, hl, h => by
    simp only [List.getElem?_cons_zero, Option.some.injEq] at h ⊢
    rcases hl.1 with h1 | h1
    · rw [h1] at h; cases h
    · rw [← h1]; exact h
  | a :: l, b :: l', k + 1, v, hl, h => by
    simp only [List.getElem?_cons_succ] at h ⊢
    exact sg_lb_get hl.2 h
  | [], _ :: _, k, v, hl, h => hl.elim
  | _ :: _, [], k, v, hl, h => hl.elim
theorem sg_lb_none : ∀ {l l' : sg_L} {k : Nat}, sg_lb l l' → l'[k]? = none → l[k]? = none
  | [], [], k, _, h => by simp
  | a :: l, b :: l', 0, hl, h => by simp at h
  | a :: l, b :: l', k + 1, hl, h => by
    simp only [List.getElem?_cons_succ] at h ⊢
    exact sg_lb_none hl.2 h
  | [], _ :: _, k, hl, h => hl.elim
  | _ :: _, [], k, hl, h => hl.elim
theorem sg_lb_set : ∀ {l l' : sg_L} (k : Nat) (o : Option Value), sg_lb l l' → sg_lb (l.set k o) (l'.set k o)
  | [], [], k, o, h => by simpa using h
  | a :: l, b :: l', 0, o, hl => ⟨Or.inr rfl, hl.2⟩
  | a :: l, b :: l', k + 1, o, hl => ⟨hl.1, sg_lb_set k o hl.2⟩
  | [], _ :: _, k, o, hl => hl.elim
  | _ :: _, [], k, o, hl => hl.elim
theorem sg_lb_setn : ∀ {l l' : sg_L} (k : Nat), sg_lb l l' → (l[k]? = none ∨ l[k]? = some none) → sg_lb l (l'.set k none)
  | [], [], k, h, _ => by simpa using h
  | a :: l, b :: l', 0, hl, h => by
    simp only [List.getElem?_cons_zero, Option.some.injEq, reduceCtorEq, false_or] at h
    exact ⟨Or.inl h, hl.2⟩
  | a :: l, b :: l', k + 1, hl, h => by
    simp only [List.getElem?_cons_succ] at h
    exact ⟨hl.1, sg_lb_setn k hl.2 h⟩
  | [], _ :: _, k, hl, _ => hl.elim
  | _ :: _, [], k, hl, _ => hl.elim
theorem sg_lb_kill {l l' : sg_L} (k : Nat) (h : sg_lb l l') : sg_lb (sg_kill l k) (sg_kill l' k) := by
  unfold sg_kill
  cases k with
  | zero => exact h
  | succ k =>
    dsimp only
    cases hv : l[k]? with
    | none =>
      dsimp only
      split
      · split
        · exact sg_lb_setn k h (Or.inl hv)
        · exact h
      · exact h
    | some o =>
      cases o with
      | none =>
        dsimp only
        split
        · split
          · exact sg_lb_setn k h (Or.inr hv)
          · exact h
        · exact h
      | some v =>
        rw [sg_lb_get h hv]
        dsimp only
        split
        · exact sg_lb_set k none h
        · exact h
theorem sg_lb_s1 {l l' : sg_L} {k : Nat} {v : Value} (h : sg_lb l l') : sg_lb (sg_s1 l k v) (sg_s1 l' k v) := sg_lb_set k _ (sg_lb_kill k h)
theorem sg_lb_s2 {l l' : sg_L} {k : Nat} {v : Value} (h : sg_lb l l') : sg_lb (sg_s2 l k v) (sg_s2 l' k v) := sg_lb_set k _ (sg_lb_set _ _ (sg_lb_kill k h))
def sg_rr (o o' : sg_R) : Prop := match o, o' with
  | .inl (pc, ls, st, z, σ), .inl (pc', ls', st', z', σ') => pc = pc' ∧ st = st' ∧ z = z' ∧ σ = σ' ∧ sg_lb ls ls'
  | .inr (.inl (y, as, k, pc, ls, st)), .inr (.inl (y', as', k', pc', ls', st')) => y = y' ∧ as = as' ∧ k = k' ∧ pc = pc' ∧ st = st' ∧ sg_lb ls ls'
  | .inr (.inr r), .inr (.inr r') => r = r'
  | _, _ => False
theorem sg_rr_l {pc : Nat} {ls ls' : sg_L} {st : List Value} {z : sg_Z} {σ : sg_S} (h : sg_lb ls ls') : sg_rr (.inl (pc, ls, st, z, σ)) (.inl (pc, ls', st, z, σ)) := ⟨rfl, rfl, rfl, rfl, h⟩
set_option maxHeartbeats 4000000 in
theorem sg_fg1 {X : sg_X} {m pc : Nat} {i : Instr} {ls ls' : sg_L} {st : List Value} {z : sg_Z} {σ : sg_S} {o : sg_R} (hl : sg_lb ls ls') (h : sg_st X m i pc ls st z σ = some o) : ∃ o', sg_st X m i pc ls' st z σ = some o' ∧ sg_rr o o' := by
  cases i <;> simp only [sg_st, sg_nx, sg_ldi, sg_ldl, sg_lda, sg_sti, sg_stl, sg_sta, sg_i1, sg_i2, sg_l2, sg_jp, reduceCtorEq] at h ⊢ <;>
    (repeat' split at h) <;>
    first
    | (cases h; done)
    | (cases h
       refine ⟨_, rfl, ?_⟩
       first
       | exact sg_rr_l hl
       | exact sg_rr_l (sg_lb_s1 hl)
       | exact sg_rr_l (sg_lb_s2 hl)
       | exact ⟨rfl, rfl, rfl, rfl, rfl, hl⟩
       | rfl)
    | (rename_i hv
       cases h
       rw [sg_lb_get hl hv]
       exact ⟨_, rfl, sg_rr_l hl⟩)
    | (rename_i hv hk
       cases h
       rw [sg_lb_get hl hv]
       dsimp only
       rw [if_pos hk]
       exact ⟨_, rfl, sg_rr_l (sg_lb_s1 hl)⟩)
    | (cases h
       (repeat rw [if_pos (by assumption)])
       (try rw [if_neg (by assumption)])
       (repeat rw [if_pos (by assumption)])
       refine ⟨_, rfl, ?_⟩
       first
       | exact sg_rr_l hl
       | exact sg_rr_l (sg_lb_s1 hl)
       | exact sg_rr_l (sg_lb_s2 hl)
       | exact ⟨rfl, rfl, rfl, rfl, rfl, hl⟩
       | rfl)
    | (cases h
       simp only [*, sg_in, and_self, true_and, and_true, if_true, if_false]
       refine ⟨_, rfl, ?_⟩
       first
       | exact sg_rr_l hl
       | exact sg_rr_l (sg_lb_s1 hl)
       | exact sg_rr_l (sg_lb_s2 hl)
       | exact ⟨rfl, rfl, rfl, rfl, rfl, hl⟩
       | rfl)
theorem sg_fg {X : sg_X} : ∀ (f : Nat) {M pc : Nat} {ls ls' : sg_L} {st : List Value} {z : sg_Z} {σ : sg_S} {r : Option Value × sg_Z × sg_S}, sg_lb ls ls' → sg_ex X f M pc ls st z σ = some r → sg_ex X f M pc ls' st z σ = some r
  | 0, M, pc, ls, ls', st, z, σ, r, _, h => by cases h
  | f + 1, M, pc, ls, ls', st, z, σ, r, hl, h => by
    rw [sg_ex] at h ⊢
    split at h
    · rename_i i n hd
      split at h
      · rename_i hln
        rw [if_pos hln]
        split at h
        · rename_i pc1 ls1 st1 z1 σ1 h1
          obtain ⟨o', g1, g2⟩ := sg_fg1 hl h1
          rw [g1]
          match o', g2 with
          | .inl (pc2, ls2, st2, z2, σ2), g2 =>
            obtain ⟨rfl, rfl, rfl, rfl, g3⟩ := g2
            exact sg_fg f g3 h
        · rename_i y as keep pc1 ls1 st1 h1
          obtain ⟨o', g1, g2⟩ := sg_fg1 hl h1
          rw [g1]
          match o', g2 with
          | .inr (.inl (y2, as2, keep2, pc2, ls2, st2)), g2 =>
            obtain ⟨rfl, rfl, rfl, rfl, rfl, g3⟩ := g2
            dsimp only
            split at h
            · rename_i r1 z1 σ1 h2
              split at h
              · rename_i hc
                rw [if_pos hc]
                exact sg_fg f g3 h
              · cases h
            · cases h
        · rename_i r1 h1
          obtain ⟨o', g1, g2⟩ := sg_fg1 hl h1
          rw [g1]
          match o', g2 with
          | .inr (.inr r2), g2 =>
            cases g2
            exact h
        · cases h
      · cases h
    · cases h
theorem sg_wq_fg {X : sg_X} {n M pc : Nat} {ls ls' : sg_L} {st : List Value} {σ : sg_S} {Q : Option Value → sg_S → Prop} (hl : sg_lb ls ls') (h : sg_wq X n M pc ls st σ Q) : sg_wq X n M pc ls' st σ Q := by
  obtain ⟨f, r, σ', h1, h2⟩ := h
  exact ⟨f, r, σ', sg_fg f hl h1, h2⟩
end
