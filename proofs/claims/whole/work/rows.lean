section
-- ===== PART A: goes FIRST, ahead of the names: the tables' words, and 'selects' of the private methods out of them =====
/-- a private method of a class that the tables say can be made, by its rows of tables_1 -/
def lw_okq (q : MethodName × Nat) : Prop := (q.1.cls ≠ "java/lang/invoke/MethodHandle" ∧ q.1.cls ≠ "java/lang/invoke/VarHandle") ∧ Cond.instantiable q.1.cls q.2 ∈ tables_1 ∧ Cond.privateMethod q.1 ∈ tables_1 ∧ Cond.instanceMethod q.1 ∈ tables_1
theorem lw_p0 : lw_okq (⟨"HookBoxes$Box", "addShapes", "(III)V"⟩, 12) := ⟨⟨by decide +kernel, by decide +kernel⟩, List.mem_of_getElem? (i := 25) (by decide +kernel), List.mem_of_getElem? (i := 38) (by decide +kernel), List.mem_of_getElem? (i := 39) (by decide +kernel)⟩
theorem lw_p1 : lw_okq (⟨"HookBoxes$Box", "addTrial", "()V"⟩, 12) := ⟨⟨by decide +kernel, by decide +kernel⟩, List.mem_of_getElem? (i := 25) (by decide +kernel), List.mem_of_getElem? (i := 42) (by decide +kernel), List.mem_of_getElem? (i := 43) (by decide +kernel)⟩
theorem lw_p2 : lw_okq (⟨"HookBoxes$Products", "addStrips", "(IIII)V"⟩, 6) := ⟨⟨by decide +kernel, by decide +kernel⟩, List.mem_of_getElem? (i := 144) (by decide +kernel), List.mem_of_getElem? (i := 156) (by decide +kernel), List.mem_of_getElem? (i := 157) (by decide +kernel)⟩
theorem lw_p3 : lw_okq (⟨"HookBoxes", "changeBox", "(II)V"⟩, 13) := ⟨⟨by decide +kernel, by decide +kernel⟩, List.mem_of_getElem? (i := 17) (by decide +kernel), List.mem_of_getElem? (i := 382) (by decide +kernel), List.mem_of_getElem? (i := 383) (by decide +kernel)⟩
theorem lw_p4 : lw_okq (⟨"HookBoxes$Box", "mirrored", "(I)I"⟩, 12) := ⟨⟨by decide +kernel, by decide +kernel⟩, List.mem_of_getElem? (i := 25) (by decide +kernel), List.mem_of_getElem? (i := 431) (by decide +kernel), List.mem_of_getElem? (i := 432) (by decide +kernel)⟩
theorem lw_p5 : lw_okq (⟨"HookBoxes$Box", "fullWord", "()I"⟩, 12) := ⟨⟨by decide +kernel, by decide +kernel⟩, List.mem_of_getElem? (i := 25) (by decide +kernel), List.mem_of_getElem? (i := 439) (by decide +kernel), List.mem_of_getElem? (i := 440) (by decide +kernel)⟩
theorem lw_p6 : lw_okq (⟨"HookBoxes$Products", "addOrders", "(IIIIII)V"⟩, 6) := ⟨⟨by decide +kernel, by decide +kernel⟩, List.mem_of_getElem? (i := 144) (by decide +kernel), List.mem_of_getElem? (i := 469) (by decide +kernel), List.mem_of_getElem? (i := 470) (by decide +kernel)⟩
theorem lw_p7 : lw_okq (⟨"HookBoxes$Products", "multiplyPartial", "(III)V"⟩, 6) := ⟨⟨by decide +kernel, by decide +kernel⟩, List.mem_of_getElem? (i := 144) (by decide +kernel), List.mem_of_getElem? (i := 480) (by decide +kernel), List.mem_of_getElem? (i := 481) (by decide +kernel)⟩
theorem lw_p8 : lw_okq (⟨"HookBoxes$Roots", "prepare", "()V"⟩, 6) := ⟨⟨by decide +kernel, by decide +kernel⟩, List.mem_of_getElem? (i := 193) (by decide +kernel), List.mem_of_getElem? (i := 524) (by decide +kernel), List.mem_of_getElem? (i := 525) (by decide +kernel)⟩
theorem lw_p9 : lw_okq (⟨"HookBoxes$Roots", "fillPowers", "([III)V"⟩, 6) := ⟨⟨by decide +kernel, by decide +kernel⟩, List.mem_of_getElem? (i := 193) (by decide +kernel), List.mem_of_getElem? (i := 531) (by decide +kernel), List.mem_of_getElem? (i := 532) (by decide +kernel)⟩
theorem lw_p10 : lw_okq (⟨"HookBoxes$Roots", "choose", "(I)V"⟩, 6) := ⟨⟨by decide +kernel, by decide +kernel⟩, List.mem_of_getElem? (i := 193) (by decide +kernel), List.mem_of_getElem? (i := 539) (by decide +kernel), List.mem_of_getElem? (i := 540) (by decide +kernel)⟩
theorem lw_p11 : lw_okq (⟨"HookBoxes$Roots", "shareOf", "(II)I"⟩, 6) := ⟨⟨by decide +kernel, by decide +kernel⟩, List.mem_of_getElem? (i := 193) (by decide +kernel), List.mem_of_getElem? (i := 543) (by decide +kernel), List.mem_of_getElem? (i := 544) (by decide +kernel)⟩
theorem lw_p12 : lw_okq (⟨"HookBoxes$Roots", "alternant", "([IIII)I"⟩, 6) := ⟨⟨by decide +kernel, by decide +kernel⟩, List.mem_of_getElem? (i := 193) (by decide +kernel), List.mem_of_getElem? (i := 547) (by decide +kernel), List.mem_of_getElem? (i := 548) (by decide +kernel)⟩
theorem lw_p13 : lw_okq (⟨"HookBoxes$Multiplier", "addShares", "(IIIJ)V"⟩, 3) := ⟨⟨by decide +kernel, by decide +kernel⟩, List.mem_of_getElem? (i := 219) (by decide +kernel), List.mem_of_getElem? (i := 580) (by decide +kernel), List.mem_of_getElem? (i := 581) (by decide +kernel)⟩
theorem lw_p14 : lw_okq (⟨"HookBoxes$Multiplier", "fits", "()Z"⟩, 3) := ⟨⟨by decide +kernel, by decide +kernel⟩, List.mem_of_getElem? (i := 219) (by decide +kernel), List.mem_of_getElem? (i := 589) (by decide +kernel), List.mem_of_getElem? (i := 590) (by decide +kernel)⟩
theorem lw_p15 : lw_okq (⟨"HookBoxes$Reader", "readSum", "(I)I"⟩, 10) := ⟨⟨by decide +kernel, by decide +kernel⟩, List.mem_of_getElem? (i := 236) (by decide +kernel), List.mem_of_getElem? (i := 620) (by decide +kernel), List.mem_of_getElem? (i := 621) (by decide +kernel)⟩
def lw_privs_1 : List (MethodName × Nat) := [(⟨"HookBoxes$Box", "addShapes", "(III)V"⟩, 12), (⟨"HookBoxes$Box", "addTrial", "()V"⟩, 12), (⟨"HookBoxes$Products", "addStrips", "(IIII)V"⟩, 6), (⟨"HookBoxes", "changeBox", "(II)V"⟩, 13), (⟨"HookBoxes$Box", "mirrored", "(I)I"⟩, 12), (⟨"HookBoxes$Box", "fullWord", "()I"⟩, 12), (⟨"HookBoxes$Products", "addOrders", "(IIIIII)V"⟩, 6), (⟨"HookBoxes$Products", "multiplyPartial", "(III)V"⟩, 6), (⟨"HookBoxes$Roots", "prepare", "()V"⟩, 6), (⟨"HookBoxes$Roots", "fillPowers", "([III)V"⟩, 6), (⟨"HookBoxes$Roots", "choose", "(I)V"⟩, 6), (⟨"HookBoxes$Roots", "shareOf", "(II)I"⟩, 6), (⟨"HookBoxes$Roots", "alternant", "([IIII)I"⟩, 6), (⟨"HookBoxes$Multiplier", "addShares", "(IIIJ)V"⟩, 3), (⟨"HookBoxes$Multiplier", "fits", "()Z"⟩, 3), (⟨"HookBoxes$Reader", "readSum", "(I)I"⟩, 10)]
theorem lw_r1 : ∀ q ∈ lw_privs_1, lw_okq q := List.forall_mem_cons.mpr ⟨lw_p0, List.forall_mem_cons.mpr ⟨lw_p1, List.forall_mem_cons.mpr ⟨lw_p2, List.forall_mem_cons.mpr ⟨lw_p3, List.forall_mem_cons.mpr ⟨lw_p4, List.forall_mem_cons.mpr ⟨lw_p5, List.forall_mem_cons.mpr ⟨lw_p6, List.forall_mem_cons.mpr ⟨lw_p7, List.forall_mem_cons.mpr ⟨lw_p8, List.forall_mem_cons.mpr ⟨lw_p9, List.forall_mem_cons.mpr ⟨lw_p10, List.forall_mem_cons.mpr ⟨lw_p11, List.forall_mem_cons.mpr ⟨lw_p12, List.forall_mem_cons.mpr ⟨lw_p13, List.forall_mem_cons.mpr ⟨lw_p14, List.forall_mem_cons.mpr ⟨lw_p15, fun _ h => absurd h List.not_mem_nil⟩⟩⟩⟩⟩⟩⟩⟩⟩⟩⟩⟩⟩⟩⟩⟩
theorem lw_p16 : lw_okq (⟨"HookBoxes$Reader", "readProduct", "(I)I"⟩, 10) := ⟨⟨by decide +kernel, by decide +kernel⟩, List.mem_of_getElem? (i := 236) (by decide +kernel), List.mem_of_getElem? (i := 624) (by decide +kernel), List.mem_of_getElem? (i := 625) (by decide +kernel)⟩
theorem lw_p17 : lw_okq (⟨"HookBoxes$Reader", "readOne", "(I)I"⟩, 10) := ⟨⟨by decide +kernel, by decide +kernel⟩, List.mem_of_getElem? (i := 236) (by decide +kernel), List.mem_of_getElem? (i := 628) (by decide +kernel), List.mem_of_getElem? (i := 629) (by decide +kernel)⟩
theorem lw_p18 : lw_okq (⟨"HookBoxes$Reader", "sees", "(I)Z"⟩, 10) := ⟨⟨by decide +kernel, by decide +kernel⟩, List.mem_of_getElem? (i := 236) (by decide +kernel), List.mem_of_getElem? (i := 632) (by decide +kernel), List.mem_of_getElem? (i := 633) (by decide +kernel)⟩
theorem lw_p19 : lw_okq (⟨"HookBoxes$Reader", "readInner", "(I)I"⟩, 10) := ⟨⟨by decide +kernel, by decide +kernel⟩, List.mem_of_getElem? (i := 236) (by decide +kernel), List.mem_of_getElem? (i := 636) (by decide +kernel), List.mem_of_getElem? (i := 637) (by decide +kernel)⟩
theorem lw_p20 : lw_okq (⟨"HookBoxes$Reader", "fail", "(I)V"⟩, 10) := ⟨⟨by decide +kernel, by decide +kernel⟩, List.mem_of_getElem? (i := 236) (by decide +kernel), List.mem_of_getElem? (i := 640) (by decide +kernel), List.mem_of_getElem? (i := 641) (by decide +kernel)⟩
theorem lw_p21 : lw_okq (⟨"HookBoxes$Reader", "readShape", "(LHookBoxes$Sum;)V"⟩, 10) := ⟨⟨by decide +kernel, by decide +kernel⟩, List.mem_of_getElem? (i := 236) (by decide +kernel), List.mem_of_getElem? (i := 645) (by decide +kernel), List.mem_of_getElem? (i := 646) (by decide +kernel)⟩
theorem lw_p22 : lw_okq (⟨"HookBoxes$Reader", "seesDigit", "()Z"⟩, 10) := ⟨⟨by decide +kernel, by decide +kernel⟩, List.mem_of_getElem? (i := 236) (by decide +kernel), List.mem_of_getElem? (i := 649) (by decide +kernel), List.mem_of_getElem? (i := 650) (by decide +kernel)⟩
theorem lw_p23 : lw_okq (⟨"HookBoxes$Reader", "readNumber", "(LHookBoxes$Sum;)V"⟩, 10) := ⟨⟨by decide +kernel, by decide +kernel⟩, List.mem_of_getElem? (i := 236) (by decide +kernel), List.mem_of_getElem? (i := 654) (by decide +kernel), List.mem_of_getElem? (i := 655) (by decide +kernel)⟩
theorem lw_p24 : lw_okq (⟨"HookBoxes$Reader", "goesOn", "()Z"⟩, 10) := ⟨⟨by decide +kernel, by decide +kernel⟩, List.mem_of_getElem? (i := 236) (by decide +kernel), List.mem_of_getElem? (i := 664) (by decide +kernel), List.mem_of_getElem? (i := 665) (by decide +kernel)⟩
theorem lw_p25 : lw_okq (⟨"HookBoxesModel", "shapesOf", "()V"⟩, 40) := ⟨⟨by decide +kernel, by decide +kernel⟩, List.mem_of_getElem? (i := 757) (by decide +kernel), List.mem_of_getElem? (i := 764) (by decide +kernel), List.mem_of_getElem? (i := 765) (by decide +kernel)⟩
theorem lw_p26 : lw_okq (⟨"HookBoxesModel", "width", "()I"⟩, 40) := ⟨⟨by decide +kernel, by decide +kernel⟩, List.mem_of_getElem? (i := 757) (by decide +kernel), List.mem_of_getElem? (i := 768) (by decide +kernel), List.mem_of_getElem? (i := 769) (by decide +kernel)⟩
theorem lw_p27 : lw_okq (⟨"HookBoxesModel", "rowsBy", "(I)I"⟩, 40) := ⟨⟨by decide +kernel, by decide +kernel⟩, List.mem_of_getElem? (i := 757) (by decide +kernel), List.mem_of_getElem? (i := 775) (by decide +kernel), List.mem_of_getElem? (i := 776) (by decide +kernel)⟩
theorem lw_p28 : lw_okq (⟨"HookBoxesModel", "isShape", "(I)Z"⟩, 40) := ⟨⟨by decide +kernel, by decide +kernel⟩, List.mem_of_getElem? (i := 757) (by decide +kernel), List.mem_of_getElem? (i := 914) (by decide +kernel), List.mem_of_getElem? (i := 915) (by decide +kernel)⟩
theorem lw_p29 : lw_okq (⟨"HookBoxesModel", "at", "(II)I"⟩, 40) := ⟨⟨by decide +kernel, by decide +kernel⟩, List.mem_of_getElem? (i := 757) (by decide +kernel), List.mem_of_getElem? (i := 918) (by decide +kernel), List.mem_of_getElem? (i := 919) (by decide +kernel)⟩
theorem lw_p30 : lw_okq (⟨"HookBoxesModel", "shapeOf", "(I)I"⟩, 40) := ⟨⟨by decide +kernel, by decide +kernel⟩, List.mem_of_getElem? (i := 757) (by decide +kernel), List.mem_of_getElem? (i := 926) (by decide +kernel), List.mem_of_getElem? (i := 927) (by decide +kernel)⟩
theorem lw_p31 : lw_okq (⟨"HookBoxesModel", "word", "(I)I"⟩, 40) := ⟨⟨by decide +kernel, by decide +kernel⟩, List.mem_of_getElem? (i := 757) (by decide +kernel), List.mem_of_getElem? (i := 934) (by decide +kernel), List.mem_of_getElem? (i := 935) (by decide +kernel)⟩
def lw_privs_2 : List (MethodName × Nat) := [(⟨"HookBoxes$Reader", "readProduct", "(I)I"⟩, 10), (⟨"HookBoxes$Reader", "readOne", "(I)I"⟩, 10), (⟨"HookBoxes$Reader", "sees", "(I)Z"⟩, 10), (⟨"HookBoxes$Reader", "readInner", "(I)I"⟩, 10), (⟨"HookBoxes$Reader", "fail", "(I)V"⟩, 10), (⟨"HookBoxes$Reader", "readShape", "(LHookBoxes$Sum;)V"⟩, 10), (⟨"HookBoxes$Reader", "seesDigit", "()Z"⟩, 10), (⟨"HookBoxes$Reader", "readNumber", "(LHookBoxes$Sum;)V"⟩, 10), (⟨"HookBoxes$Reader", "goesOn", "()Z"⟩, 10), (⟨"HookBoxesModel", "shapesOf", "()V"⟩, 40), (⟨"HookBoxesModel", "width", "()I"⟩, 40), (⟨"HookBoxesModel", "rowsBy", "(I)I"⟩, 40), (⟨"HookBoxesModel", "isShape", "(I)Z"⟩, 40), (⟨"HookBoxesModel", "at", "(II)I"⟩, 40), (⟨"HookBoxesModel", "shapeOf", "(I)I"⟩, 40), (⟨"HookBoxesModel", "word", "(I)I"⟩, 40)]
theorem lw_r2 : ∀ q ∈ lw_privs_2, lw_okq q := List.forall_mem_cons.mpr ⟨lw_p16, List.forall_mem_cons.mpr ⟨lw_p17, List.forall_mem_cons.mpr ⟨lw_p18, List.forall_mem_cons.mpr ⟨lw_p19, List.forall_mem_cons.mpr ⟨lw_p20, List.forall_mem_cons.mpr ⟨lw_p21, List.forall_mem_cons.mpr ⟨lw_p22, List.forall_mem_cons.mpr ⟨lw_p23, List.forall_mem_cons.mpr ⟨lw_p24, List.forall_mem_cons.mpr ⟨lw_p25, List.forall_mem_cons.mpr ⟨lw_p26, List.forall_mem_cons.mpr ⟨lw_p27, List.forall_mem_cons.mpr ⟨lw_p28, List.forall_mem_cons.mpr ⟨lw_p29, List.forall_mem_cons.mpr ⟨lw_p30, List.forall_mem_cons.mpr ⟨lw_p31, fun _ h => absurd h List.not_mem_nil⟩⟩⟩⟩⟩⟩⟩⟩⟩⟩⟩⟩⟩⟩⟩⟩
theorem lw_p32 : lw_okq (⟨"HookBoxesModel", "full", "(I)I"⟩, 40) := ⟨⟨by decide +kernel, by decide +kernel⟩, List.mem_of_getElem? (i := 757) (by decide +kernel), List.mem_of_getElem? (i := 938) (by decide +kernel), List.mem_of_getElem? (i := 939) (by decide +kernel)⟩
theorem lw_p33 : lw_okq (⟨"HookBoxesModel", "kind", "(I)I"⟩, 40) := ⟨⟨by decide +kernel, by decide +kernel⟩, List.mem_of_getElem? (i := 757) (by decide +kernel), List.mem_of_getElem? (i := 942) (by decide +kernel), List.mem_of_getElem? (i := 943) (by decide +kernel)⟩
theorem lw_p34 : lw_okq (⟨"HookBoxesModel", "dual", "(I)I"⟩, 40) := ⟨⟨by decide +kernel, by decide +kernel⟩, List.mem_of_getElem? (i := 757) (by decide +kernel), List.mem_of_getElem? (i := 946) (by decide +kernel), List.mem_of_getElem? (i := 947) (by decide +kernel)⟩
theorem lw_p35 : lw_okq (⟨"HookBoxesModel", "turnedWord", "(I)I"⟩, 40) := ⟨⟨by decide +kernel, by decide +kernel⟩, List.mem_of_getElem? (i := 757) (by decide +kernel), List.mem_of_getElem? (i := 950) (by decide +kernel), List.mem_of_getElem? (i := 951) (by decide +kernel)⟩
theorem lw_p36 : lw_okq (⟨"HookBoxesModel", "oftenOf", "(III)I"⟩, 40) := ⟨⟨by decide +kernel, by decide +kernel⟩, List.mem_of_getElem? (i := 757) (by decide +kernel), List.mem_of_getElem? (i := 963) (by decide +kernel), List.mem_of_getElem? (i := 964) (by decide +kernel)⟩
theorem lw_p37 : lw_okq (⟨"HookBoxesModel", "orders", "(IIIII)V"⟩, 40) := ⟨⟨by decide +kernel, by decide +kernel⟩, List.mem_of_getElem? (i := 757) (by decide +kernel), List.mem_of_getElem? (i := 967) (by decide +kernel), List.mem_of_getElem? (i := 968) (by decide +kernel)⟩
theorem lw_p38 : lw_okq (⟨"HookBoxesModel", "timesRow", "(I)V"⟩, 40) := ⟨⟨by decide +kernel, by decide +kernel⟩, List.mem_of_getElem? (i := 757) (by decide +kernel), List.mem_of_getElem? (i := 971) (by decide +kernel), List.mem_of_getElem? (i := 972) (by decide +kernel)⟩
theorem lw_p39 : lw_okq (⟨"HookBoxesModel", "strips", "(IIII)V"⟩, 40) := ⟨⟨by decide +kernel, by decide +kernel⟩, List.mem_of_getElem? (i := 757) (by decide +kernel), List.mem_of_getElem? (i := 975) (by decide +kernel), List.mem_of_getElem? (i := 976) (by decide +kernel)⟩
theorem lw_p40 : lw_okq (⟨"HookBoxesModel", "takesRound", "([I)V"⟩, 40) := ⟨⟨by decide +kernel, by decide +kernel⟩, List.mem_of_getElem? (i := 757) (by decide +kernel), List.mem_of_getElem? (i := 980) (by decide +kernel), List.mem_of_getElem? (i := 981) (by decide +kernel)⟩
theorem lw_p41 : lw_okq (⟨"HookBoxesModel", "turnsOf", "(III)I"⟩, 40) := ⟨⟨by decide +kernel, by decide +kernel⟩, List.mem_of_getElem? (i := 757) (by decide +kernel), List.mem_of_getElem? (i := 984) (by decide +kernel), List.mem_of_getElem? (i := 985) (by decide +kernel)⟩
theorem lw_p42 : lw_okq (⟨"HookBoxesModel", "byRoots", "(I)I"⟩, 40) := ⟨⟨by decide +kernel, by decide +kernel⟩, List.mem_of_getElem? (i := 757) (by decide +kernel), List.mem_of_getElem? (i := 1011) (by decide +kernel), List.mem_of_getElem? (i := 1012) (by decide +kernel)⟩
theorem lw_p43 : lw_okq (⟨"HookBoxesModel", "rootsNow", "()V"⟩, 40) := ⟨⟨by decide +kernel, by decide +kernel⟩, List.mem_of_getElem? (i := 757) (by decide +kernel), List.mem_of_getElem? (i := 1015) (by decide +kernel), List.mem_of_getElem? (i := 1016) (by decide +kernel)⟩
theorem lw_p44 : lw_okq (⟨"HookBoxesModel", "alternant", "(IIIZ)I"⟩, 40) := ⟨⟨by decide +kernel, by decide +kernel⟩, List.mem_of_getElem? (i := 757) (by decide +kernel), List.mem_of_getElem? (i := 1022) (by decide +kernel), List.mem_of_getElem? (i := 1023) (by decide +kernel)⟩
theorem lw_p45 : lw_okq (⟨"HookBoxesModel", "isTerm", "(II)Z"⟩, 40) := ⟨⟨by decide +kernel, by decide +kernel⟩, List.mem_of_getElem? (i := 757) (by decide +kernel), List.mem_of_getElem? (i := 1041) (by decide +kernel), List.mem_of_getElem? (i := 1042) (by decide +kernel)⟩
theorem lw_p46 : lw_okq (⟨"HookBoxesModel", "becomes", "(IIII)V"⟩, 40) := ⟨⟨by decide +kernel, by decide +kernel⟩, List.mem_of_getElem? (i := 757) (by decide +kernel), List.mem_of_getElem? (i := 1054) (by decide +kernel), List.mem_of_getElem? (i := 1055) (by decide +kernel)⟩
theorem lw_p47 : lw_okq (⟨"HookBoxesModel", "multiplies", "(II)V"⟩, 40) := ⟨⟨by decide +kernel, by decide +kernel⟩, List.mem_of_getElem? (i := 757) (by decide +kernel), List.mem_of_getElem? (i := 1058) (by decide +kernel), List.mem_of_getElem? (i := 1059) (by decide +kernel)⟩
def lw_privs_3 : List (MethodName × Nat) := [(⟨"HookBoxesModel", "full", "(I)I"⟩, 40), (⟨"HookBoxesModel", "kind", "(I)I"⟩, 40), (⟨"HookBoxesModel", "dual", "(I)I"⟩, 40), (⟨"HookBoxesModel", "turnedWord", "(I)I"⟩, 40), (⟨"HookBoxesModel", "oftenOf", "(III)I"⟩, 40), (⟨"HookBoxesModel", "orders", "(IIIII)V"⟩, 40), (⟨"HookBoxesModel", "timesRow", "(I)V"⟩, 40), (⟨"HookBoxesModel", "strips", "(IIII)V"⟩, 40), (⟨"HookBoxesModel", "takesRound", "([I)V"⟩, 40), (⟨"HookBoxesModel", "turnsOf", "(III)I"⟩, 40), (⟨"HookBoxesModel", "byRoots", "(I)I"⟩, 40), (⟨"HookBoxesModel", "rootsNow", "()V"⟩, 40), (⟨"HookBoxesModel", "alternant", "(IIIZ)I"⟩, 40), (⟨"HookBoxesModel", "isTerm", "(II)Z"⟩, 40), (⟨"HookBoxesModel", "becomes", "(IIII)V"⟩, 40), (⟨"HookBoxesModel", "multiplies", "(II)V"⟩, 40)]
theorem lw_r3 : ∀ q ∈ lw_privs_3, lw_okq q := List.forall_mem_cons.mpr ⟨lw_p32, List.forall_mem_cons.mpr ⟨lw_p33, List.forall_mem_cons.mpr ⟨lw_p34, List.forall_mem_cons.mpr ⟨lw_p35, List.forall_mem_cons.mpr ⟨lw_p36, List.forall_mem_cons.mpr ⟨lw_p37, List.forall_mem_cons.mpr ⟨lw_p38, List.forall_mem_cons.mpr ⟨lw_p39, List.forall_mem_cons.mpr ⟨lw_p40, List.forall_mem_cons.mpr ⟨lw_p41, List.forall_mem_cons.mpr ⟨lw_p42, List.forall_mem_cons.mpr ⟨lw_p43, List.forall_mem_cons.mpr ⟨lw_p44, List.forall_mem_cons.mpr ⟨lw_p45, List.forall_mem_cons.mpr ⟨lw_p46, List.forall_mem_cons.mpr ⟨lw_p47, fun _ h => absurd h List.not_mem_nil⟩⟩⟩⟩⟩⟩⟩⟩⟩⟩⟩⟩⟩⟩⟩⟩
theorem lw_p48 : lw_okq (⟨"HookBoxesModel", "lays", "(I)V"⟩, 40) := ⟨⟨by decide +kernel, by decide +kernel⟩, List.mem_of_getElem? (i := 757) (by decide +kernel), List.mem_of_getElem? (i := 1062) (by decide +kernel), List.mem_of_getElem? (i := 1063) (by decide +kernel)⟩
theorem lw_p49 : lw_okq (⟨"HookBoxesModel", "ends", "()I"⟩, 40) := ⟨⟨by decide +kernel, by decide +kernel⟩, List.mem_of_getElem? (i := 757) (by decide +kernel), List.mem_of_getElem? (i := 1068) (by decide +kernel), List.mem_of_getElem? (i := 1069) (by decide +kernel)⟩
theorem lw_p50 : lw_okq (⟨"HookBoxesModel", "there", "()I"⟩, 40) := ⟨⟨by decide +kernel, by decide +kernel⟩, List.mem_of_getElem? (i := 757) (by decide +kernel), List.mem_of_getElem? (i := 1072) (by decide +kernel), List.mem_of_getElem? (i := 1073) (by decide +kernel)⟩
theorem lw_p51 : lw_okq (⟨"HookBoxesModel", "goes", "(Z)I"⟩, 40) := ⟨⟨by decide +kernel, by decide +kernel⟩, List.mem_of_getElem? (i := 757) (by decide +kernel), List.mem_of_getElem? (i := 1085) (by decide +kernel), List.mem_of_getElem? (i := 1086) (by decide +kernel)⟩
theorem lw_p52 : lw_okq (⟨"HookBoxesModel", "sumOf", "(IZ)I"⟩, 40) := ⟨⟨by decide +kernel, by decide +kernel⟩, List.mem_of_getElem? (i := 757) (by decide +kernel), List.mem_of_getElem? (i := 1089) (by decide +kernel), List.mem_of_getElem? (i := 1090) (by decide +kernel)⟩
theorem lw_p53 : lw_okq (⟨"HookBoxesModel", "product", "(IZ)I"⟩, 40) := ⟨⟨by decide +kernel, by decide +kernel⟩, List.mem_of_getElem? (i := 757) (by decide +kernel), List.mem_of_getElem? (i := 1093) (by decide +kernel), List.mem_of_getElem? (i := 1094) (by decide +kernel)⟩
theorem lw_p54 : lw_okq (⟨"HookBoxesModel", "one", "(IZ)I"⟩, 40) := ⟨⟨by decide +kernel, by decide +kernel⟩, List.mem_of_getElem? (i := 757) (by decide +kernel), List.mem_of_getElem? (i := 1097) (by decide +kernel), List.mem_of_getElem? (i := 1098) (by decide +kernel)⟩
theorem lw_p55 : lw_okq (⟨"HookBoxesModel", "isDigit", "()Z"⟩, 40) := ⟨⟨by decide +kernel, by decide +kernel⟩, List.mem_of_getElem? (i := 757) (by decide +kernel), List.mem_of_getElem? (i := 1101) (by decide +kernel), List.mem_of_getElem? (i := 1102) (by decide +kernel)⟩
theorem lw_p56 : lw_okq (⟨"HookBoxesModel", "here", "()I"⟩, 40) := ⟨⟨by decide +kernel, by decide +kernel⟩, List.mem_of_getElem? (i := 757) (by decide +kernel), List.mem_of_getElem? (i := 1105) (by decide +kernel), List.mem_of_getElem? (i := 1106) (by decide +kernel)⟩
theorem lw_p57 : lw_okq (⟨"HookBoxesModel", "digits", "(I)I"⟩, 40) := ⟨⟨by decide +kernel, by decide +kernel⟩, List.mem_of_getElem? (i := 757) (by decide +kernel), List.mem_of_getElem? (i := 1111) (by decide +kernel), List.mem_of_getElem? (i := 1112) (by decide +kernel)⟩
theorem lw_p58 : lw_okq (⟨"HookBoxesModel", "numberOf", "(I)I"⟩, 40) := ⟨⟨by decide +kernel, by decide +kernel⟩, List.mem_of_getElem? (i := 757) (by decide +kernel), List.mem_of_getElem? (i := 1115) (by decide +kernel), List.mem_of_getElem? (i := 1116) (by decide +kernel)⟩
theorem lw_p59 : lw_okq (⟨"HookBoxesModel", "adds", "(III)V"⟩, 40) := ⟨⟨by decide +kernel, by decide +kernel⟩, List.mem_of_getElem? (i := 757) (by decide +kernel), List.mem_of_getElem? (i := 1119) (by decide +kernel), List.mem_of_getElem? (i := 1120) (by decide +kernel)⟩
theorem lw_p60 : lw_okq (⟨"HookBoxesModel", "walk", "(II)I"⟩, 40) := ⟨⟨by decide +kernel, by decide +kernel⟩, List.mem_of_getElem? (i := 757) (by decide +kernel), List.mem_of_getElem? (i := 1128) (by decide +kernel), List.mem_of_getElem? (i := 1129) (by decide +kernel)⟩
def lw_privs_4 : List (MethodName × Nat) := [(⟨"HookBoxesModel", "lays", "(I)V"⟩, 40), (⟨"HookBoxesModel", "ends", "()I"⟩, 40), (⟨"HookBoxesModel", "there", "()I"⟩, 40), (⟨"HookBoxesModel", "goes", "(Z)I"⟩, 40), (⟨"HookBoxesModel", "sumOf", "(IZ)I"⟩, 40), (⟨"HookBoxesModel", "product", "(IZ)I"⟩, 40), (⟨"HookBoxesModel", "one", "(IZ)I"⟩, 40), (⟨"HookBoxesModel", "isDigit", "()Z"⟩, 40), (⟨"HookBoxesModel", "here", "()I"⟩, 40), (⟨"HookBoxesModel", "digits", "(I)I"⟩, 40), (⟨"HookBoxesModel", "numberOf", "(I)I"⟩, 40), (⟨"HookBoxesModel", "adds", "(III)V"⟩, 40), (⟨"HookBoxesModel", "walk", "(II)I"⟩, 40)]
theorem lw_r4 : ∀ q ∈ lw_privs_4, lw_okq q := List.forall_mem_cons.mpr ⟨lw_p48, List.forall_mem_cons.mpr ⟨lw_p49, List.forall_mem_cons.mpr ⟨lw_p50, List.forall_mem_cons.mpr ⟨lw_p51, List.forall_mem_cons.mpr ⟨lw_p52, List.forall_mem_cons.mpr ⟨lw_p53, List.forall_mem_cons.mpr ⟨lw_p54, List.forall_mem_cons.mpr ⟨lw_p55, List.forall_mem_cons.mpr ⟨lw_p56, List.forall_mem_cons.mpr ⟨lw_p57, List.forall_mem_cons.mpr ⟨lw_p58, List.forall_mem_cons.mpr ⟨lw_p59, List.forall_mem_cons.mpr ⟨lw_p60, fun _ h => absurd h List.not_mem_nil⟩⟩⟩⟩⟩⟩⟩⟩⟩⟩⟩⟩⟩
def lw_privs : List (MethodName × Nat) := lw_privs_1 ++ (lw_privs_2 ++ (lw_privs_3 ++ (lw_privs_4)))
def lw_tbl : List Cond := k2_sels lw_privs ++ tables_1
theorem lw_privs_ok : ∀ q ∈ lw_privs, lw_okq q := by
  show ∀ q ∈ lw_privs_1 ++ (lw_privs_2 ++ (lw_privs_3 ++ (lw_privs_4))), lw_okq q
  exact List.forall_mem_append.mpr ⟨lw_r1, List.forall_mem_append.mpr ⟨lw_r2, List.forall_mem_append.mpr ⟨lw_r3, lw_r4⟩⟩⟩
end
section
/-! the tables of this claim: classes, fields, methods, links, places; by program (wip/whole/gen_data.py) -/
abbrev hkV : Type := Nat × Int
abbrev hkG : Type := Int → Int → Int
def hkT0 : u_T := fun k => match k with
  | 0 => ("HookBoxes", "box", "LHookBoxes$Box;", true)
  | 1 => ("HookBoxes", "rounder", "LHookBoxes$Rounder;", true)
  | 2 => ("HookBoxes", "products", "LHookBoxes$Products;", true)
  | 3 => ("HookBoxes", "byRoots", "LHookBoxes$Roots;", true)
  | 4 => ("HookBoxes", "multiplier", "LHookBoxes$Multiplier;", true)
  | 5 => ("HookBoxes", "reader", "LHookBoxes$Reader;", true)
  | 6 => ("HookBoxes", "walker", "LHookBoxes$Walker;", true)
  | 7 => ("HookBoxes", "inHand", "LHookBoxes$Sum;", true)
  | 8 => ("HookBoxes", "factor", "LHookBoxes$Sum;", true)
  | 9 => ("HookBoxes", "kept", "LHookBoxes$Sum;", true)
  | 10 => ("HookBoxes", "keptRows", "I", false)
  | 11 => ("HookBoxes", "keptRound", "I", false)
  | _ => ("HookBoxes", "sheets", "[LHookBoxes$Sheet;", true)
def hkY0 : Nat → FieldType := fun k => match k with
  | 0 => .object "HookBoxes$Box"
  | 1 => .object "HookBoxes$Rounder"
  | 2 => .object "HookBoxes$Products"
  | 3 => .object "HookBoxes$Roots"
  | 4 => .object "HookBoxes$Multiplier"
  | 5 => .object "HookBoxes$Reader"
  | 6 => .object "HookBoxes$Walker"
  | 7 => .object "HookBoxes$Sum"
  | 8 => .object "HookBoxes$Sum"
  | 9 => .object "HookBoxes$Sum"
  | 10 => .int
  | 11 => .int
  | _ => .array (.object "HookBoxes$Sheet")
theorem hkYok0 : ∀ k, k < 13 → parseFieldDescriptor (hkT0 k).2.2.1 = some (hkY0 k) := by decide +kernel
theorem hkNm0 : ∀ a, a < 13 → ∀ b, b < 13 → a ≠ b → (hkT0 a).2.1 ≠ (hkT0 b).2.1 := by decide +kernel
set_option maxRecDepth 100000 in
set_option maxHeartbeats 4000000 in
theorem hkWs0 : ∀ w ∈ u_ws "HookBoxes" hkT0 13, w ∈ lw_tbl := by
  intro w hw
  have h : (u_ws "HookBoxes" hkT0 13).map some = [408, 410, 412, 414, 416, 418, 420, 422, 424, 426, 428, 430, 432].map (fun i => lw_tbl[i]?) := by rfl
  have h2 : some w ∈ (u_ws "HookBoxes" hkT0 13).map some := List.mem_map.mpr ⟨w, hw, rfl⟩
  rw [h] at h2
  obtain ⟨i, _, hi⟩ := List.mem_map.mp h2
  exact List.mem_of_getElem? hi
def hkT1 : u_T := fun k => match k with
  | 0 => ("HookBoxes$Box", "rows", "I", false)
  | 1 => ("HookBoxes$Box", "round", "I", false)
  | 2 => ("HookBoxes$Box", "width", "I", false)
  | 3 => ("HookBoxes$Box", "shapes", "I", false)
  | 4 => ("HookBoxes$Box", "lengths", "[I", true)
  | 5 => ("HookBoxes$Box", "sizes", "[I", true)
  | 6 => ("HookBoxes$Box", "words", "[I", true)
  | 7 => ("HookBoxes$Box", "alike", "[I", true)
  | 8 => ("HookBoxes$Box", "alikes", "[I", true)
  | 9 => ("HookBoxes$Box", "slots", "[I", true)
  | 10 => ("HookBoxes$Box", "byWord", "[I", true)
  | _ => ("HookBoxes$Box", "trial", "[I", true)
def hkY1 : Nat → FieldType := fun k => match k with
  | 0 => .int
  | 1 => .int
  | 2 => .int
  | 3 => .int
  | 4 => .array (.int)
  | 5 => .array (.int)
  | 6 => .array (.int)
  | 7 => .array (.int)
  | 8 => .array (.int)
  | 9 => .array (.int)
  | 10 => .array (.int)
  | _ => .array (.int)
theorem hkYok1 : ∀ k, k < 12 → parseFieldDescriptor (hkT1 k).2.2.1 = some (hkY1 k) := by decide +kernel
theorem hkNm1 : ∀ a, a < 12 → ∀ b, b < 12 → a ≠ b → (hkT1 a).2.1 ≠ (hkT1 b).2.1 := by decide +kernel
set_option maxRecDepth 100000 in
set_option maxHeartbeats 4000000 in
theorem hkWs1 : ∀ w ∈ u_ws "HookBoxes$Box" hkT1 12, w ∈ lw_tbl := by
  intro w hw
  have h : (u_ws "HookBoxes$Box" hkT1 12).map some = [151, 153, 155, 157, 159, 161, 163, 165, 167, 169, 171, 173].map (fun i => lw_tbl[i]?) := by rfl
  have h2 : some w ∈ (u_ws "HookBoxes$Box" hkT1 12).map some := List.mem_map.mpr ⟨w, hw, rfl⟩
  rw [h] at h2
  obtain ⟨i, _, hi⟩ := List.mem_map.mp h2
  exact List.mem_of_getElem? hi
def hkT2 : u_T := fun k => match k with
  | 0 => ("HookBoxes$Rounder", "sign", "I", false)
  | 1 => ("HookBoxes$Rounder", "taken", "I", false)
  | 2 => ("HookBoxes$Rounder", "shape", "I", false)
  | 3 => ("HookBoxes$Rounder", "box", "LHookBoxes$Box;", true)
  | _ => ("HookBoxes$Rounder", "beads", "[I", true)
def hkY2 : Nat → FieldType := fun k => match k with
  | 0 => .int
  | 1 => .int
  | 2 => .int
  | 3 => .object "HookBoxes$Box"
  | _ => .array (.int)
theorem hkYok2 : ∀ k, k < 5 → parseFieldDescriptor (hkT2 k).2.2.1 = some (hkY2 k) := by decide +kernel
theorem hkNm2 : ∀ a, a < 5 → ∀ b, b < 5 → a ≠ b → (hkT2 a).2.1 ≠ (hkT2 b).2.1 := by decide +kernel
set_option maxRecDepth 100000 in
set_option maxHeartbeats 4000000 in
theorem hkWs2 : ∀ w ∈ u_ws "HookBoxes$Rounder" hkT2 5, w ∈ lw_tbl := by
  intro w hw
  have h : (u_ws "HookBoxes$Rounder" hkT2 5).map some = [193, 195, 197, 199, 201].map (fun i => lw_tbl[i]?) := by rfl
  have h2 : some w ∈ (u_ws "HookBoxes$Rounder" hkT2 5).map some := List.mem_map.mpr ⟨w, hw, rfl⟩
  rw [h] at h2
  obtain ⟨i, _, hi⟩ := List.mem_map.mp h2
  exact List.mem_of_getElem? hi
def hkT3 : u_T := fun k => match k with
  | 0 => ("HookBoxes$Products", "box", "LHookBoxes$Box;", true)
  | 1 => ("HookBoxes$Products", "rounder", "LHookBoxes$Rounder;", true)
  | 2 => ("HookBoxes$Products", "strips", "[I", true)
  | 3 => ("HookBoxes$Products", "table", "[I", true)
  | 4 => ("HookBoxes$Products", "partial", "[I", true)
  | _ => ("HookBoxes$Products", "grown", "[I", true)
def hkY3 : Nat → FieldType := fun k => match k with
  | 0 => .object "HookBoxes$Box"
  | 1 => .object "HookBoxes$Rounder"
  | 2 => .array (.int)
  | 3 => .array (.int)
  | 4 => .array (.int)
  | _ => .array (.int)
theorem hkYok3 : ∀ k, k < 6 → parseFieldDescriptor (hkT3 k).2.2.1 = some (hkY3 k) := by decide +kernel
theorem hkNm3 : ∀ a, a < 6 → ∀ b, b < 6 → a ≠ b → (hkT3 a).2.1 ≠ (hkT3 b).2.1 := by decide +kernel
set_option maxRecDepth 100000 in
set_option maxHeartbeats 4000000 in
theorem hkWs3 : ∀ w ∈ u_ws "HookBoxes$Products" hkT3 6, w ∈ lw_tbl := by
  intro w hw
  have h : (u_ws "HookBoxes$Products" hkT3 6).map some = [240, 242, 244, 246, 248, 250].map (fun i => lw_tbl[i]?) := by rfl
  have h2 : some w ∈ (u_ws "HookBoxes$Products" hkT3 6).map some := List.mem_map.mpr ⟨w, hw, rfl⟩
  rw [h] at h2
  obtain ⟨i, _, hi⟩ := List.mem_map.mp h2
  exact List.mem_of_getElem? hi
def hkT4 : u_T := fun k => match k with
  | 0 => ("HookBoxes$Roots", "factors", "[I", true)
  | 1 => ("HookBoxes$Roots", "box", "LHookBoxes$Box;", true)
  | 2 => ("HookBoxes$Roots", "powers", "[I", true)
  | 3 => ("HookBoxes$Roots", "inversePowers", "[I", true)
  | 4 => ("HookBoxes$Roots", "chosen", "[I", true)
  | _ => ("HookBoxes$Roots", "ready", "Z", false)
def hkY4 : Nat → FieldType := fun k => match k with
  | 0 => .array (.int)
  | 1 => .object "HookBoxes$Box"
  | 2 => .array (.int)
  | 3 => .array (.int)
  | 4 => .array (.int)
  | _ => .boolean
theorem hkYok4 : ∀ k, k < 6 → parseFieldDescriptor (hkT4 k).2.2.1 = some (hkY4 k) := by decide +kernel
theorem hkNm4 : ∀ a, a < 6 → ∀ b, b < 6 → a ≠ b → (hkT4 a).2.1 ≠ (hkT4 b).2.1 := by decide +kernel
set_option maxRecDepth 100000 in
set_option maxHeartbeats 4000000 in
theorem hkWs4 : ∀ w ∈ u_ws "HookBoxes$Roots" hkT4 6, w ∈ lw_tbl := by
  intro w hw
  have h : (u_ws "HookBoxes$Roots" hkT4 6).map some = [266, 268, 270, 272, 274, 276].map (fun i => lw_tbl[i]?) := by rfl
  have h2 : some w ∈ (u_ws "HookBoxes$Roots" hkT4 6).map some := List.mem_map.mpr ⟨w, hw, rfl⟩
  rw [h] at h2
  obtain ⟨i, _, hi⟩ := List.mem_map.mp h2
  exact List.mem_of_getElem? hi
def hkT5 : u_T := fun k => match k with
  | 0 => ("HookBoxes$Multiplier", "box", "LHookBoxes$Box;", true)
  | 1 => ("HookBoxes$Multiplier", "products", "LHookBoxes$Products;", true)
  | _ => ("HookBoxes$Multiplier", "coming", "[J", true)
def hkY5 : Nat → FieldType := fun k => match k with
  | 0 => .object "HookBoxes$Box"
  | 1 => .object "HookBoxes$Products"
  | _ => .array (.long)
theorem hkYok5 : ∀ k, k < 3 → parseFieldDescriptor (hkT5 k).2.2.1 = some (hkY5 k) := by decide +kernel
theorem hkNm5 : ∀ a, a < 3 → ∀ b, b < 3 → a ≠ b → (hkT5 a).2.1 ≠ (hkT5 b).2.1 := by decide +kernel
set_option maxRecDepth 100000 in
set_option maxHeartbeats 4000000 in
theorem hkWs5 : ∀ w ∈ u_ws "HookBoxes$Multiplier" hkT5 3, w ∈ lw_tbl := by
  intro w hw
  have h : (u_ws "HookBoxes$Multiplier" hkT5 3).map some = [288, 290, 292].map (fun i => lw_tbl[i]?) := by rfl
  have h2 : some w ∈ (u_ws "HookBoxes$Multiplier" hkT5 3).map some := List.mem_map.mpr ⟨w, hw, rfl⟩
  rw [h] at h2
  obtain ⟨i, _, hi⟩ := List.mem_map.mp h2
  exact List.mem_of_getElem? hi
def hkT6 : u_T := fun k => match k with
  | 0 => ("HookBoxes$Reader", "size", "I", false)
  | 1 => ("HookBoxes$Reader", "parts", "I", false)
  | 2 => ("HookBoxes$Reader", "fault", "I", false)
  | 3 => ("HookBoxes$Reader", "spent", "Z", false)
  | 4 => ("HookBoxes$Reader", "totals", "[LHookBoxes$Sum;", true)
  | 5 => ("HookBoxes$Reader", "sides", "[LHookBoxes$Sum;", true)
  | 6 => ("HookBoxes$Reader", "tape", "[I", true)
  | 7 => ("HookBoxes$Reader", "at", "I", false)
  | 8 => ("HookBoxes$Reader", "box", "LHookBoxes$Box;", true)
  | _ => ("HookBoxes$Reader", "multiplier", "LHookBoxes$Multiplier;", true)
def hkY6 : Nat → FieldType := fun k => match k with
  | 0 => .int
  | 1 => .int
  | 2 => .int
  | 3 => .boolean
  | 4 => .array (.object "HookBoxes$Sum")
  | 5 => .array (.object "HookBoxes$Sum")
  | 6 => .array (.int)
  | 7 => .int
  | 8 => .object "HookBoxes$Box"
  | _ => .object "HookBoxes$Multiplier"
theorem hkYok6 : ∀ k, k < 10 → parseFieldDescriptor (hkT6 k).2.2.1 = some (hkY6 k) := by decide +kernel
theorem hkNm6 : ∀ a, a < 10 → ∀ b, b < 10 → a ≠ b → (hkT6 a).2.1 ≠ (hkT6 b).2.1 := by decide +kernel
set_option maxRecDepth 100000 in
set_option maxHeartbeats 4000000 in
theorem hkWs6 : ∀ w ∈ u_ws "HookBoxes$Reader" hkT6 10, w ∈ lw_tbl := by
  intro w hw
  have h : (u_ws "HookBoxes$Reader" hkT6 10).map some = [331, 333, 335, 337, 339, 341, 343, 345, 347, 349].map (fun i => lw_tbl[i]?) := by rfl
  have h2 : some w ∈ (u_ws "HookBoxes$Reader" hkT6 10).map some := List.mem_map.mpr ⟨w, hw, rfl⟩
  rw [h] at h2
  obtain ⟨i, _, hi⟩ := List.mem_map.mp h2
  exact List.mem_of_getElem? hi
def hkT7 : u_T := fun k => match k with
  | _ => ("HookBoxes$Sum", "coefficients", "[I", true)
def hkY7 : Nat → FieldType := fun k => match k with
  | _ => .array (.int)
theorem hkYok7 : ∀ k, k < 1 → parseFieldDescriptor (hkT7 k).2.2.1 = some (hkY7 k) := by decide +kernel
theorem hkNm7 : ∀ a, a < 1 → ∀ b, b < 1 → a ≠ b → (hkT7 a).2.1 ≠ (hkT7 b).2.1 := by decide +kernel
set_option maxRecDepth 100000 in
set_option maxHeartbeats 4000000 in
theorem hkWs7 : ∀ w ∈ u_ws "HookBoxes$Sum" hkT7 1, w ∈ lw_tbl := by
  intro w hw
  have h : (u_ws "HookBoxes$Sum" hkT7 1).map some = [313].map (fun i => lw_tbl[i]?) := by rfl
  have h2 : some w ∈ (u_ws "HookBoxes$Sum" hkT7 1).map some := List.mem_map.mpr ⟨w, hw, rfl⟩
  rw [h] at h2
  obtain ⟨i, _, hi⟩ := List.mem_map.mp h2
  exact List.mem_of_getElem? hi
def hkT8 : u_T := fun k => match k with
  | 0 => ("HookBoxes$Walker", "where", "I", false)
  | 1 => ("HookBoxes$Walker", "taken", "I", false)
  | 2 => ("HookBoxes$Walker", "box", "LHookBoxes$Box;", true)
  | _ => ("HookBoxes$Walker", "products", "LHookBoxes$Products;", true)
def hkY8 : Nat → FieldType := fun k => match k with
  | 0 => .int
  | 1 => .int
  | 2 => .object "HookBoxes$Box"
  | _ => .object "HookBoxes$Products"
theorem hkYok8 : ∀ k, k < 4 → parseFieldDescriptor (hkT8 k).2.2.1 = some (hkY8 k) := by decide +kernel
theorem hkNm8 : ∀ a, a < 4 → ∀ b, b < 4 → a ≠ b → (hkT8 a).2.1 ≠ (hkT8 b).2.1 := by decide +kernel
set_option maxRecDepth 100000 in
set_option maxHeartbeats 4000000 in
theorem hkWs8 : ∀ w ∈ u_ws "HookBoxes$Walker" hkT8 4, w ∈ lw_tbl := by
  intro w hw
  have h : (u_ws "HookBoxes$Walker" hkT8 4).map some = [364, 366, 368, 370].map (fun i => lw_tbl[i]?) := by rfl
  have h2 : some w ∈ (u_ws "HookBoxes$Walker" hkT8 4).map some := List.mem_map.mpr ⟨w, hw, rfl⟩
  rw [h] at h2
  obtain ⟨i, _, hi⟩ := List.mem_map.mp h2
  exact List.mem_of_getElem? hi
def hkT9 : u_T := fun k => match k with
  | 0 => ("HookBoxes$Sheet", "sort", "I", false)
  | 1 => ("HookBoxes$Sheet", "size", "I", false)
  | _ => ("HookBoxes$Sheet", "items", "[I", true)
def hkY9 : Nat → FieldType := fun k => match k with
  | 0 => .int
  | 1 => .int
  | _ => .array (.int)
theorem hkYok9 : ∀ k, k < 3 → parseFieldDescriptor (hkT9 k).2.2.1 = some (hkY9 k) := by decide +kernel
theorem hkNm9 : ∀ a, a < 3 → ∀ b, b < 3 → a ≠ b → (hkT9 a).2.1 ≠ (hkT9 b).2.1 := by decide +kernel
set_option maxRecDepth 100000 in
set_option maxHeartbeats 4000000 in
theorem hkWs9 : ∀ w ∈ u_ws "HookBoxes$Sheet" hkT9 3, w ∈ lw_tbl := by
  intro w hw
  have h : (u_ws "HookBoxes$Sheet" hkT9 3).map some = [388, 390, 392].map (fun i => lw_tbl[i]?) := by rfl
  have h2 : some w ∈ (u_ws "HookBoxes$Sheet" hkT9 3).map some := List.mem_map.mpr ⟨w, hw, rfl⟩
  rw [h] at h2
  obtain ⟨i, _, hi⟩ := List.mem_map.mp h2
  exact List.mem_of_getElem? hi
def hkT10 : u_T := fun k => match k with
  | 0 => ("HookBoxesModel", "rows", "I", false)
  | 1 => ("HookBoxesModel", "round", "I", false)
  | 2 => ("HookBoxesModel", "shapes", "I", false)
  | 3 => ("HookBoxesModel", "length", "[I", true)
  | 4 => ("HookBoxesModel", "shapeBy", "[I", true)
  | 5 => ("HookBoxesModel", "size", "[I", true)
  | 6 => ("HookBoxesModel", "often", "[I", true)
  | 7 => ("HookBoxesModel", "isFound", "[Z", true)
  | 8 => ("HookBoxesModel", "sum", "[I", true)
  | 9 => ("HookBoxesModel", "kept", "[I", true)
  | 10 => ("HookBoxesModel", "keptRows", "I", false)
  | 11 => ("HookBoxesModel", "keptRound", "I", false)
  | 12 => ("HookBoxesModel", "parts", "I", false)
  | 13 => ("HookBoxesModel", "isKept", "Z", false)
  | 14 => ("HookBoxesModel", "now", "[I", true)
  | 15 => ("HookBoxesModel", "bead", "[I", true)
  | 16 => ("HookBoxesModel", "sign", "I", false)
  | 17 => ("HookBoxesModel", "turnsTaken", "I", false)
  | 18 => ("HookBoxesModel", "shapeTaken", "I", false)
  | 19 => ("HookBoxesModel", "from", "[I", true)
  | 20 => ("HookBoxesModel", "into", "[I", true)
  | 21 => ("HookBoxesModel", "strip", "[I", true)
  | 22 => ("HookBoxesModel", "order", "[I", true)
  | 23 => ("HookBoxesModel", "root", "[I", true)
  | 24 => ("HookBoxesModel", "taken", "[I", true)
  | 25 => ("HookBoxesModel", "some", "[I", true)
  | 26 => ("HookBoxesModel", "manySome", "I", false)
  | 27 => ("HookBoxesModel", "hand", "[I", true)
  | 28 => ("HookBoxesModel", "made", "[J", true)
  | 29 => ("HookBoxesModel", "isSpent", "Z", false)
  | 30 => ("HookBoxesModel", "tape", "[I", true)
  | 31 => ("HookBoxesModel", "five", "[I", true)
  | 32 => ("HookBoxesModel", "fed", "I", false)
  | 33 => ("HookBoxesModel", "place", "I", false)
  | 34 => ("HookBoxesModel", "open", "I", false)
  | 35 => ("HookBoxesModel", "walked", "I", false)
  | 36 => ("HookBoxesModel", "sort", "[I", true)
  | 37 => ("HookBoxesModel", "many", "[I", true)
  | 38 => ("HookBoxesModel", "item", "[I", true)
  | _ => ("HookBoxesModel", "moved", "[I", true)
def hkY10 : Nat → FieldType := fun k => match k with
  | 0 => .int
  | 1 => .int
  | 2 => .int
  | 3 => .array (.int)
  | 4 => .array (.int)
  | 5 => .array (.int)
  | 6 => .array (.int)
  | 7 => .array (.boolean)
  | 8 => .array (.int)
  | 9 => .array (.int)
  | 10 => .int
  | 11 => .int
  | 12 => .int
  | 13 => .boolean
  | 14 => .array (.int)
  | 15 => .array (.int)
  | 16 => .int
  | 17 => .int
  | 18 => .int
  | 19 => .array (.int)
  | 20 => .array (.int)
  | 21 => .array (.int)
  | 22 => .array (.int)
  | 23 => .array (.int)
  | 24 => .array (.int)
  | 25 => .array (.int)
  | 26 => .int
  | 27 => .array (.int)
  | 28 => .array (.long)
  | 29 => .boolean
  | 30 => .array (.int)
  | 31 => .array (.int)
  | 32 => .int
  | 33 => .int
  | 34 => .int
  | 35 => .int
  | 36 => .array (.int)
  | 37 => .array (.int)
  | 38 => .array (.int)
  | _ => .array (.int)
theorem hkYok10 : ∀ k, k < 40 → parseFieldDescriptor (hkT10 k).2.2.1 = some (hkY10 k) := by decide +kernel
theorem hkNm10 : ∀ a, a < 40 → ∀ b, b < 40 → a ≠ b → (hkT10 a).2.1 ≠ (hkT10 b).2.1 := by decide +kernel
set_option maxRecDepth 100000 in
set_option maxHeartbeats 4000000 in
theorem hkWs10 : ∀ w ∈ u_ws "HookBoxesModel" hkT10 40, w ∈ lw_tbl := by
  intro w hw
  have h : (u_ws "HookBoxesModel" hkT10 40).map some = [879, 881, 883, 885, 887, 889, 891, 893, 895, 897, 899, 901, 903, 905, 907, 909, 911, 913, 915, 917, 919, 921, 923, 925, 927, 929, 931, 933, 935, 937, 939, 941, 943, 945, 947, 949, 951, 953, 955, 957].map (fun i => lw_tbl[i]?) := by rfl
  have h2 : some w ∈ (u_ws "HookBoxesModel" hkT10 40).map some := List.mem_map.mpr ⟨w, hw, rfl⟩
  rw [h] at h2
  obtain ⟨i, _, hi⟩ := List.mem_map.mp h2
  exact List.mem_of_getElem? hi
def hkCl : List vw_C := [("HookBoxes", hkT0, 13), ("HookBoxes$Box", hkT1, 12), ("HookBoxes$Rounder", hkT2, 5), ("HookBoxes$Products", hkT3, 6), ("HookBoxes$Roots", hkT4, 6), ("HookBoxes$Multiplier", hkT5, 3), ("HookBoxes$Reader", hkT6, 10), ("HookBoxes$Sum", hkT7, 1), ("HookBoxes$Walker", hkT8, 4), ("HookBoxes$Sheet", hkT9, 3), ("HookBoxesModel", hkT10, 40)]
def hkOwns : List String := ["HookBoxes", "HookBoxes$Box", "HookBoxes$Rounder", "HookBoxes$Products", "HookBoxes$Roots", "HookBoxes$Multiplier", "HookBoxes$Reader", "HookBoxes$Sum", "HookBoxes$Walker", "HookBoxes$Sheet", "HookBoxesModel", "HookBoxesLaw", "java/lang/Integer", "java/lang/Math", "java/util/Arrays", "java/lang/Object", "java/lang/System"]
def hkOwnS (k : Nat) : String := hkOwns.getD k ""
def hkFTs : List (List Nat) := [[2, 2, 2, 2, 2, 2, 2, 2, 2, 2, 0, 0, 2], [0, 0, 0, 0, 2, 2, 2, 2, 2, 2, 2, 2], [0, 0, 0, 2, 2], [2, 2, 2, 2, 2, 2], [2, 2, 2, 2, 2, 3], [2, 2, 2], [0, 0, 0, 3, 2, 2, 2, 0, 2, 2], [2], [0, 0, 2, 2], [0, 0, 2], [0, 0, 0, 2, 2, 2, 2, 2, 2, 2, 0, 0, 0, 3, 2, 2, 0, 0, 0, 2, 2, 2, 2, 2, 2, 2, 0, 2, 2, 3, 2, 2, 0, 0, 0, 0, 2, 2, 2, 2]]
def hkFT (ci k : Nat) : Nat := (hkFTs.getD ci []).getD k 9
def hkMs0 : List (MethodName × ByteArray × Nat × Option FieldType × Nat × List Nat × Nat) := [(⟨"HookBoxes", "<init>", "()V"⟩, prog_1_method_1_code, 2, (Option.none : Option Jvm.ClassFile.FieldType), 0, [2], 9),
  (⟨"HookBoxes", "box", "(II)I"⟩, prog_1_method_2_code, 3, (Option.some Jvm.ClassFile.FieldType.int), 0, [2, 0, 0], 0),
  (⟨"HookBoxes", "isOff", "(III)Z"⟩, prog_1_method_30_code, 3, (Option.some Jvm.ClassFile.FieldType.boolean), 0, [0, 0, 0], 3),
  (⟨"HookBoxes", "changeBox", "(II)V"⟩, prog_1_method_29_code, 3, (Option.none : Option Jvm.ClassFile.FieldType), 0, [2, 0, 0], 9),
  (⟨"HookBoxes", "row", "(II)I"⟩, prog_1_method_3_code, 3, (Option.some Jvm.ClassFile.FieldType.int), 0, [2, 0, 0], 0),
  (⟨"HookBoxes", "number", "(I)I"⟩, prog_1_method_4_code, 2, (Option.some Jvm.ClassFile.FieldType.int), 0, [2, 0], 0),
  (⟨"HookBoxes", "of", "(II)I"⟩, prog_1_method_5_code, 3, (Option.some Jvm.ClassFile.FieldType.int), 0, [2, 0, 0], 0),
  (⟨"HookBoxes", "kinds", "(I)I"⟩, prog_1_method_6_code, 4, (Option.some Jvm.ClassFile.FieldType.int), 0, [2, 0], 0),
  (⟨"HookBoxes", "times", "(IIII)I"⟩, prog_1_method_7_code, 6, (Option.some Jvm.ClassFile.FieldType.int), 0, [2, 0, 0, 0, 0], 0),
  (⟨"HookBoxes", "turns", "(III)I"⟩, prog_1_method_8_code, 11, (Option.some Jvm.ClassFile.FieldType.int), 0, [2, 0, 0, 0], 0),
  (⟨"HookBoxes", "around", "(IIII)I"⟩, prog_1_method_9_code, 8, (Option.some Jvm.ClassFile.FieldType.int), 0, [2, 0, 0, 0, 0], 0),
  (⟨"HookBoxes", "hooks", "(II)I"⟩, prog_1_method_10_code, 4, (Option.some Jvm.ClassFile.FieldType.int), 0, [2, 0, 0], 0),
  (⟨"HookBoxes", "isNoSheet", "(I)Z"⟩, prog_1_method_32_code, 1, (Option.some Jvm.ClassFile.FieldType.boolean), 0, [0], 3),
  (⟨"HookBoxes", "roots", "(III)I"⟩, prog_1_method_11_code, 4, (Option.some Jvm.ClassFile.FieldType.int), 0, [2, 0, 0, 0], 0),
  (⟨"HookBoxes", "rootsOf", "(II)I"⟩, prog_1_method_12_code, 5, (Option.some Jvm.ClassFile.FieldType.int), 0, [2, 0, 0], 0),
  (⟨"HookBoxes", "term", "(II)I"⟩, prog_1_method_13_code, 3, (Option.some Jvm.ClassFile.FieldType.int), 0, [2, 0, 0], 0),
  (⟨"HookBoxes", "scaled", "(III)J"⟩, prog_1_method_14_code, 6, (Option.some Jvm.ClassFile.FieldType.long), 0, [2, 0, 0, 0], 1),
  (⟨"HookBoxes", "multiply", "(I)I"⟩, prog_1_method_15_code, 2, (Option.some Jvm.ClassFile.FieldType.int), 0, [2, 0], 0),
  (⟨"HookBoxes", "feed", "(IIIIII)I"⟩, prog_1_method_16_code, 8, (Option.some Jvm.ClassFile.FieldType.int), 0, [2, 0, 0, 0, 0, 0, 0], 0),
  (⟨"HookBoxes", "isNoByte", "(I)Z"⟩, prog_1_method_31_code, 1, (Option.some Jvm.ClassFile.FieldType.boolean), 0, [0], 3),
  (⟨"HookBoxes", "read", "()I"⟩, prog_1_method_17_code, 1, (Option.some Jvm.ClassFile.FieldType.int), 0, [2], 0),
  (⟨"HookBoxes", "drawn", "(III)I"⟩, prog_1_method_18_code, 4, (Option.some Jvm.ClassFile.FieldType.int), 0, [2, 0, 0, 0], 0),
  (⟨"HookBoxes", "chance", "(IIIII)I"⟩, prog_1_method_19_code, 8, (Option.some Jvm.ClassFile.FieldType.int), 0, [2, 0, 0, 0, 0, 0], 0),
  (⟨"HookBoxes", "commonDivisor", "(II)I"⟩, prog_1_method_33_code, 6, (Option.some Jvm.ClassFile.FieldType.int), 0, [0, 0], 0),
  (⟨"HookBoxes", "tells", "(III)I"⟩, prog_1_method_20_code, 6, (Option.some Jvm.ClassFile.FieldType.int), 0, [2, 0, 0, 0], 0),
  (⟨"HookBoxes", "film", "(III)I"⟩, prog_1_method_21_code, 6, (Option.some Jvm.ClassFile.FieldType.int), 0, [2, 0, 0, 0], 0),
  (⟨"HookBoxes", "image", "()I"⟩, prog_1_method_22_code, 1, (Option.some Jvm.ClassFile.FieldType.int), 0, [2], 0),
  (⟨"HookBoxes", "back", "()I"⟩, prog_1_method_23_code, 1, (Option.some Jvm.ClassFile.FieldType.int), 0, [2], 0),
  (⟨"HookBoxes", "load", "(IIII)I"⟩, prog_1_method_24_code, 9, (Option.some Jvm.ClassFile.FieldType.int), 0, [2, 0, 0, 0, 0], 0),
  (⟨"HookBoxes", "count", "(I)I"⟩, prog_1_method_25_code, 2, (Option.some Jvm.ClassFile.FieldType.int), 0, [2, 0], 0),
  (⟨"HookBoxes", "sheet", "(III)I"⟩, prog_1_method_26_code, 4, (Option.some Jvm.ClassFile.FieldType.int), 0, [2, 0, 0, 0], 0),
  (⟨"HookBoxes", "put", "(III)I"⟩, prog_1_method_27_code, 5, (Option.some Jvm.ClassFile.FieldType.int), 0, [2, 0, 0, 0], 0),
  (⟨"HookBoxes", "copy", "(IIIII)I"⟩, prog_1_method_28_code, 8, (Option.some Jvm.ClassFile.FieldType.int), 0, [2, 0, 0, 0, 0, 0], 0),
  (⟨"HookBoxes$Box", "<init>", "()V"⟩, prog_2_method_1_code, 1, (Option.none : Option Jvm.ClassFile.FieldType), 1, [2], 9),
  (⟨"HookBoxes$Box", "become", "(II)V"⟩, prog_2_method_2_code, 4, (Option.none : Option Jvm.ClassFile.FieldType), 1, [2, 0, 0], 9),
  (⟨"HookBoxes$Box", "addShapes", "(III)V"⟩, prog_2_method_3_code, 5, (Option.none : Option Jvm.ClassFile.FieldType), 1, [2, 0, 0, 0], 9),
  (⟨"HookBoxes$Box", "addTrial", "()V"⟩, prog_2_method_4_code, 4, (Option.none : Option Jvm.ClassFile.FieldType), 1, [2], 9),
  (⟨"HookBoxes$Box", "beadOf", "(II)I"⟩, prog_2_method_5_code, 3, (Option.some Jvm.ClassFile.FieldType.int), 1, [2, 0, 0], 0),
  (⟨"HookBoxes$Box", "withWord", "(I)I"⟩, prog_2_method_7_code, 2, (Option.some Jvm.ClassFile.FieldType.int), 1, [2, 0], 0),
  (⟨"HookBoxes$Box", "isShape", "(I)Z"⟩, prog_2_method_6_code, 2, (Option.some Jvm.ClassFile.FieldType.boolean), 1, [2, 0], 3)]
def hkMs1 : List (MethodName × ByteArray × Nat × Option FieldType × Nat × List Nat × Nat) := [(⟨"HookBoxes$Box", "numbered", "(I)I"⟩, prog_2_method_8_code, 8, (Option.some Jvm.ClassFile.FieldType.int), 1, [2, 0], 0),
  (⟨"HookBoxes$Box", "filledRows", "(I)I"⟩, prog_2_method_9_code, 4, (Option.some Jvm.ClassFile.FieldType.int), 1, [2, 0], 0),
  (⟨"HookBoxes$Box", "kindOf", "(I)I"⟩, prog_2_method_10_code, 4, (Option.some Jvm.ClassFile.FieldType.int), 1, [2, 0], 0),
  (⟨"HookBoxes$Box", "dualOf", "(I)I"⟩, prog_2_method_11_code, 2, (Option.some Jvm.ClassFile.FieldType.int), 1, [2, 0], 0),
  (⟨"HookBoxes$Box", "mirrored", "(I)I"⟩, prog_2_method_15_code, 4, (Option.some Jvm.ClassFile.FieldType.int), 1, [2, 0], 0),
  (⟨"HookBoxes$Box", "rolledOf", "(I)I"⟩, prog_2_method_12_code, 3, (Option.some Jvm.ClassFile.FieldType.int), 1, [2, 0], 0),
  (⟨"HookBoxes$Box", "fullWord", "()I"⟩, prog_2_method_14_code, 1, (Option.some Jvm.ClassFile.FieldType.int), 1, [2], 0),
  (⟨"HookBoxes$Box", "turnedWordOf", "(I)I"⟩, prog_2_method_13_code, 2, (Option.some Jvm.ClassFile.FieldType.int), 1, [2, 0], 0),
  (⟨"HookBoxes$Rounder", "<init>", "(LHookBoxes$Box;)V"⟩, prog_7_method_1_code, 2, (Option.none : Option Jvm.ClassFile.FieldType), 2, [2, 2], 9),
  (⟨"HookBoxes$Rounder", "takeRound", "([I)V"⟩, prog_7_method_2_code, 7, (Option.none : Option Jvm.ClassFile.FieldType), 2, [2, 2], 9),
  (⟨"HookBoxes$Products", "<init>", "(LHookBoxes$Box;LHookBoxes$Rounder;)V"⟩, prog_4_method_1_code, 3, (Option.none : Option Jvm.ClassFile.FieldType), 3, [2, 2, 2], 9),
  (⟨"HookBoxes$Products", "renew", "()V"⟩, prog_4_method_2_code, 3, (Option.none : Option Jvm.ClassFile.FieldType), 3, [2], 9),
  (⟨"HookBoxes$Products", "addStrips", "(IIII)V"⟩, prog_4_method_3_code, 8, (Option.none : Option Jvm.ClassFile.FieldType), 3, [2, 0, 0, 0, 0], 9),
  (⟨"HookBoxes$Products", "often", "(III)I"⟩, prog_4_method_4_code, 4, (Option.some Jvm.ClassFile.FieldType.int), 3, [2, 0, 0, 0], 0),
  (⟨"HookBoxes$Products", "placeOf", "(II)I"⟩, prog_4_method_8_code, 4, (Option.some Jvm.ClassFile.FieldType.int), 3, [2, 0, 0], 0),
  (⟨"HookBoxes$Products", "addOrders", "(IIIIII)V"⟩, prog_4_method_9_code, 11, (Option.none : Option Jvm.ClassFile.FieldType), 3, [2, 0, 0, 0, 0, 0, 0], 9),
  (⟨"HookBoxes$Products", "multiplyPartial", "(III)V"⟩, prog_4_method_10_code, 10, (Option.none : Option Jvm.ClassFile.FieldType), 3, [2, 0, 0, 0], 9),
  (⟨"HookBoxes$Products", "turnsTo", "(III)I"⟩, prog_4_method_5_code, 4, (Option.some Jvm.ClassFile.FieldType.int), 3, [2, 0, 0, 0], 0),
  (⟨"HookBoxes$Products", "restOf", "(II)I"⟩, prog_4_method_7_code, 3, (Option.some Jvm.ClassFile.FieldType.int), 3, [2, 0, 0], 0),
  (⟨"HookBoxes$Products", "firstIn", "(II)I"⟩, prog_4_method_6_code, 6, (Option.some Jvm.ClassFile.FieldType.int), 3, [2, 0, 0], 0),
  (⟨"HookBoxes$Roots", "<init>", "(LHookBoxes$Box;)V"⟩, prog_6_method_1_code, 2, (Option.none : Option Jvm.ClassFile.FieldType), 4, [2, 2], 9),
  (⟨"HookBoxes$Roots", "forget", "()V"⟩, prog_6_method_2_code, 1, (Option.none : Option Jvm.ClassFile.FieldType), 4, [2], 9),
  (⟨"HookBoxes$Roots", "often", "(II)I"⟩, prog_6_method_5_code, 5, (Option.some Jvm.ClassFile.FieldType.int), 4, [2, 0, 0], 0),
  (⟨"HookBoxes$Roots", "prepare", "()V"⟩, prog_6_method_3_code, 4, (Option.none : Option Jvm.ClassFile.FieldType), 4, [2], 9),
  (⟨"HookBoxes$Roots", "power", "(II)I"⟩, prog_6_method_10_code, 5, (Option.some Jvm.ClassFile.FieldType.int), 4, [0, 0], 0),
  (⟨"HookBoxes$Roots", "fillPowers", "([III)V"⟩, prog_6_method_4_code, 6, (Option.none : Option Jvm.ClassFile.FieldType), 4, [2, 2, 0, 0], 9),
  (⟨"HookBoxes$Roots", "inverse", "(I)I"⟩, prog_6_method_9_code, 1, (Option.some Jvm.ClassFile.FieldType.int), 4, [0], 0),
  (⟨"HookBoxes$Roots", "choose", "(I)V"⟩, prog_6_method_6_code, 4, (Option.none : Option Jvm.ClassFile.FieldType), 4, [2, 0], 9),
  (⟨"HookBoxes$Roots", "shareOf", "(II)I"⟩, prog_6_method_7_code, 8, (Option.some Jvm.ClassFile.FieldType.int), 4, [2, 0, 0], 0),
  (⟨"HookBoxes$Roots", "alternant", "([IIII)I"⟩, prog_6_method_8_code, 10, (Option.some Jvm.ClassFile.FieldType.int), 4, [2, 2, 0, 0, 0], 0),
  (⟨"HookBoxes$Multiplier", "<init>", "(LHookBoxes$Box;LHookBoxes$Products;)V"⟩, prog_3_method_1_code, 3, (Option.none : Option Jvm.ClassFile.FieldType), 5, [2, 2, 2], 9),
  (⟨"HookBoxes$Multiplier", "multiplied", "(LHookBoxes$Sum;LHookBoxes$Sum;)Z"⟩, prog_3_method_2_code, 6, (Option.some Jvm.ClassFile.FieldType.boolean), 5, [2, 2, 2], 3),
  (⟨"HookBoxes$Multiplier", "addShares", "(IIIJ)V"⟩, prog_3_method_3_code, 13, (Option.none : Option Jvm.ClassFile.FieldType), 5, [2, 0, 0, 0, 1], 9),
  (⟨"HookBoxes$Multiplier", "fits", "()Z"⟩, prog_3_method_4_code, 4, (Option.some Jvm.ClassFile.FieldType.boolean), 5, [2], 3),
  (⟨"HookBoxes$Reader", "<init>", "(LHookBoxes$Box;LHookBoxes$Multiplier;)V"⟩, prog_5_method_1_code, 4, (Option.none : Option Jvm.ClassFile.FieldType), 6, [2, 2, 2], 9),
  (⟨"HookBoxes$Reader", "append", "(I)V"⟩, prog_5_method_2_code, 2, (Option.none : Option Jvm.ClassFile.FieldType), 6, [2, 0], 9),
  (⟨"HookBoxes$Reader", "readTape", "()V"⟩, prog_5_method_3_code, 2, (Option.none : Option Jvm.ClassFile.FieldType), 6, [2], 9),
  (⟨"HookBoxes$Reader", "readSum", "(I)I"⟩, prog_5_method_4_code, 5, (Option.some Jvm.ClassFile.FieldType.int), 6, [2, 0], 0),
  (⟨"HookBoxes$Reader", "readProduct", "(I)I"⟩, prog_5_method_5_code, 4, (Option.some Jvm.ClassFile.FieldType.int), 6, [2, 0], 0),
  (⟨"HookBoxes$Reader", "readOne", "(I)I"⟩, prog_5_method_6_code, 3, (Option.some Jvm.ClassFile.FieldType.int), 6, [2, 0], 0)]
def hkMs2 : List (MethodName × ByteArray × Nat × Option FieldType × Nat × List Nat × Nat) := [(⟨"HookBoxes$Reader", "sees", "(I)Z"⟩, prog_5_method_10_code, 2, (Option.some Jvm.ClassFile.FieldType.boolean), 6, [2, 0], 3),
  (⟨"HookBoxes$Reader", "readInner", "(I)I"⟩, prog_5_method_7_code, 3, (Option.some Jvm.ClassFile.FieldType.int), 6, [2, 0], 0),
  (⟨"HookBoxes$Reader", "fail", "(I)V"⟩, prog_5_method_13_code, 2, (Option.none : Option Jvm.ClassFile.FieldType), 6, [2, 0], 9),
  (⟨"HookBoxes$Reader", "readShape", "(LHookBoxes$Sum;)V"⟩, prog_5_method_8_code, 6, (Option.none : Option Jvm.ClassFile.FieldType), 6, [2, 2], 9),
  (⟨"HookBoxes$Reader", "seesDigit", "()Z"⟩, prog_5_method_11_code, 1, (Option.some Jvm.ClassFile.FieldType.boolean), 6, [2], 3),
  (⟨"HookBoxes$Reader", "readNumber", "(LHookBoxes$Sum;)V"⟩, prog_5_method_9_code, 4, (Option.none : Option Jvm.ClassFile.FieldType), 6, [2, 2], 9),
  (⟨"HookBoxes$Reader", "goesOn", "()Z"⟩, prog_5_method_12_code, 1, (Option.some Jvm.ClassFile.FieldType.boolean), 6, [2], 3),
  (⟨"HookBoxes$Sum", "<init>", "()V"⟩, prog_9_method_1_code, 1, (Option.none : Option Jvm.ClassFile.FieldType), 7, [2], 9),
  (⟨"HookBoxes$Sum", "clear", "()V"⟩, prog_9_method_2_code, 1, (Option.none : Option Jvm.ClassFile.FieldType), 7, [2], 9),
  (⟨"HookBoxes$Sum", "filled", "()I"⟩, prog_9_method_4_code, 3, (Option.some Jvm.ClassFile.FieldType.int), 7, [2], 0),
  (⟨"HookBoxes$Sum", "become", "(LHookBoxes$Sum;)V"⟩, prog_9_method_3_code, 2, (Option.none : Option Jvm.ClassFile.FieldType), 7, [2, 2], 9),
  (⟨"HookBoxes$Sum", "added", "(LHookBoxes$Sum;I)Z"⟩, prog_9_method_5_code, 5, (Option.some Jvm.ClassFile.FieldType.boolean), 7, [2, 2, 0], 3),
  (⟨"HookBoxes$Walker", "<init>", "(LHookBoxes$Box;LHookBoxes$Products;)V"⟩, prog_10_method_1_code, 3, (Option.none : Option Jvm.ClassFile.FieldType), 8, [2, 2, 2], 9),
  (⟨"HookBoxes$Walker", "walk", "(II)V"⟩, prog_10_method_2_code, 7, (Option.none : Option Jvm.ClassFile.FieldType), 8, [2, 0, 0], 9),
  (⟨"HookBoxes$Sheet", "<init>", "()V"⟩, prog_8_method_1_code, 1, (Option.none : Option Jvm.ClassFile.FieldType), 9, [2], 9),
  (⟨"HookBoxes$Sheet", "isMissing", "()Z"⟩, prog_8_method_2_code, 1, (Option.some Jvm.ClassFile.FieldType.boolean), 9, [2], 3),
  (⟨"HookBoxes$Sheet", "tellsRows", "()Z"⟩, prog_8_method_7_code, 3, (Option.some Jvm.ClassFile.FieldType.boolean), 9, [2], 3),
  (⟨"HookBoxes$Sheet", "become", "(II)V"⟩, prog_8_method_3_code, 3, (Option.none : Option Jvm.ClassFile.FieldType), 9, [2, 0, 0], 9),
  (⟨"HookBoxes$Sheet", "set", "(II)V"⟩, prog_8_method_6_code, 3, (Option.none : Option Jvm.ClassFile.FieldType), 9, [2, 0, 0], 9),
  (⟨"HookBoxes$Sheet", "hasItem", "(I)Z"⟩, prog_8_method_4_code, 2, (Option.some Jvm.ClassFile.FieldType.boolean), 9, [2, 0], 3),
  (⟨"HookBoxes$Sheet", "hasStretch", "(II)Z"⟩, prog_8_method_5_code, 3, (Option.some Jvm.ClassFile.FieldType.boolean), 9, [2, 0, 0], 3),
  (⟨"HookBoxesModel", "<init>", "()V"⟩, prog_12_method_1_code, 2, (Option.none : Option Jvm.ClassFile.FieldType), 10, [2], 9),
  (⟨"HookBoxesModel", "shapesOf", "()V"⟩, prog_12_method_7_code, 4, (Option.none : Option Jvm.ClassFile.FieldType), 10, [2], 9),
  (⟨"HookBoxesModel", "width", "()I"⟩, prog_12_method_3_code, 1, (Option.some Jvm.ClassFile.FieldType.int), 10, [2], 0),
  (⟨"HookBoxesModel", "bits", "(I)I"⟩, prog_12_method_5_code, 3, (Option.some Jvm.ClassFile.FieldType.int), 10, [0], 0),
  (⟨"HookBoxesModel", "rowsBy", "(I)I"⟩, prog_12_method_6_code, 5, (Option.some Jvm.ClassFile.FieldType.int), 10, [2, 0], 0),
  (⟨"HookBoxesModel", "box", "(II)I"⟩, prog_12_method_10_code, 4, (Option.some Jvm.ClassFile.FieldType.int), 10, [2, 0, 0], 0),
  (⟨"HookBoxesModel", "isIn", "(JJJ)Z"⟩, prog_12_method_2_code, 6, (Option.some Jvm.ClassFile.FieldType.boolean), 10, [1, 1, 1], 3),
  (⟨"HookBoxesModel", "row", "(II)I"⟩, prog_12_method_11_code, 3, (Option.some Jvm.ClassFile.FieldType.int), 10, [2, 0, 0], 0),
  (⟨"HookBoxesModel", "isShape", "(I)Z"⟩, prog_12_method_9_code, 2, (Option.some Jvm.ClassFile.FieldType.boolean), 10, [2, 0], 3),
  (⟨"HookBoxesModel", "at", "(II)I"⟩, prog_12_method_4_code, 3, (Option.some Jvm.ClassFile.FieldType.int), 10, [2, 0, 0], 0),
  (⟨"HookBoxesModel", "number", "(I)I"⟩, prog_12_method_13_code, 5, (Option.some Jvm.ClassFile.FieldType.int), 10, [2, 0], 0),
  (⟨"HookBoxesModel", "shapeOf", "(I)I"⟩, prog_12_method_12_code, 6, (Option.some Jvm.ClassFile.FieldType.int), 10, [2, 0], 0),
  (⟨"HookBoxesModel", "of", "(II)I"⟩, prog_12_method_18_code, 4, (Option.some Jvm.ClassFile.FieldType.int), 10, [2, 0, 0], 0),
  (⟨"HookBoxesModel", "word", "(I)I"⟩, prog_12_method_8_code, 4, (Option.some Jvm.ClassFile.FieldType.int), 10, [2, 0], 0),
  (⟨"HookBoxesModel", "full", "(I)I"⟩, prog_12_method_14_code, 4, (Option.some Jvm.ClassFile.FieldType.int), 10, [2, 0], 0),
  (⟨"HookBoxesModel", "kind", "(I)I"⟩, prog_12_method_15_code, 3, (Option.some Jvm.ClassFile.FieldType.int), 10, [2, 0], 0),
  (⟨"HookBoxesModel", "dual", "(I)I"⟩, prog_12_method_16_code, 4, (Option.some Jvm.ClassFile.FieldType.int), 10, [2, 0], 0),
  (⟨"HookBoxesModel", "turnedWord", "(I)I"⟩, prog_12_method_17_code, 4, (Option.some Jvm.ClassFile.FieldType.int), 10, [2, 0], 0),
  (⟨"HookBoxesModel", "kinds", "(I)I"⟩, prog_12_method_19_code, 4, (Option.some Jvm.ClassFile.FieldType.int), 10, [2, 0], 0)]
def hkMs3 : List (MethodName × ByteArray × Nat × Option FieldType × Nat × List Nat × Nat) := [(⟨"HookBoxesModel", "times", "(IIII)I"⟩, prog_12_method_26_code, 6, (Option.some Jvm.ClassFile.FieldType.int), 10, [2, 0, 0, 0, 0], 0),
  (⟨"HookBoxesModel", "oftenOf", "(III)I"⟩, prog_12_method_24_code, 5, (Option.some Jvm.ClassFile.FieldType.int), 10, [2, 0, 0, 0], 0),
  (⟨"HookBoxesModel", "orders", "(IIIII)V"⟩, prog_12_method_23_code, 8, (Option.none : Option Jvm.ClassFile.FieldType), 10, [2, 0, 0, 0, 0, 0], 9),
  (⟨"HookBoxesModel", "timesRow", "(I)V"⟩, prog_12_method_22_code, 3, (Option.none : Option Jvm.ClassFile.FieldType), 10, [2, 0], 9),
  (⟨"HookBoxesModel", "strips", "(IIII)V"⟩, prog_12_method_21_code, 7, (Option.none : Option Jvm.ClassFile.FieldType), 10, [2, 0, 0, 0, 0], 9),
  (⟨"HookBoxesModel", "takesRound", "([I)V"⟩, prog_12_method_20_code, 5, (Option.none : Option Jvm.ClassFile.FieldType), 10, [2, 2], 9),
  (⟨"HookBoxesModel", "turnsOf", "(III)I"⟩, prog_12_method_25_code, 4, (Option.some Jvm.ClassFile.FieldType.int), 10, [2, 0, 0, 0], 0),
  (⟨"HookBoxesModel", "turns", "(III)I"⟩, prog_12_method_27_code, 11, (Option.some Jvm.ClassFile.FieldType.int), 10, [2, 0, 0, 0], 0),
  (⟨"HookBoxesModel", "around", "(IIII)I"⟩, prog_12_method_28_code, 8, (Option.some Jvm.ClassFile.FieldType.int), 10, [2, 0, 0, 0, 0], 0),
  (⟨"HookBoxesModel", "hooks", "(II)I"⟩, prog_12_method_29_code, 5, (Option.some Jvm.ClassFile.FieldType.int), 10, [2, 0, 0], 0),
  (⟨"HookBoxesModel", "isSheet", "(I)Z"⟩, prog_12_method_64_code, 1, (Option.some Jvm.ClassFile.FieldType.boolean), 10, [0], 3),
  (⟨"HookBoxesModel", "roots", "(III)I"⟩, prog_12_method_36_code, 4, (Option.some Jvm.ClassFile.FieldType.int), 10, [2, 0, 0, 0], 0),
  (⟨"HookBoxesModel", "byRoots", "(I)I"⟩, prog_12_method_35_code, 9, (Option.some Jvm.ClassFile.FieldType.int), 10, [2, 0], 0),
  (⟨"HookBoxesModel", "rootsNow", "()V"⟩, prog_12_method_33_code, 3, (Option.none : Option Jvm.ClassFile.FieldType), 10, [2], 9),
  (⟨"HookBoxesModel", "power", "(II)I"⟩, prog_12_method_31_code, 4, (Option.some Jvm.ClassFile.FieldType.int), 10, [0, 0], 0),
  (⟨"HookBoxesModel", "alternant", "(IIIZ)I"⟩, prog_12_method_34_code, 9, (Option.some Jvm.ClassFile.FieldType.int), 10, [2, 0, 0, 0, 0], 0),
  (⟨"HookBoxesModel", "inverse", "(I)I"⟩, prog_12_method_32_code, 1, (Option.some Jvm.ClassFile.FieldType.int), 10, [0], 0),
  (⟨"HookBoxesModel", "mod", "(J)I"⟩, prog_12_method_30_code, 2, (Option.some Jvm.ClassFile.FieldType.int), 10, [1], 0),
  (⟨"HookBoxesModel", "rootsOf", "(II)I"⟩, prog_12_method_37_code, 4, (Option.some Jvm.ClassFile.FieldType.int), 10, [2, 0, 0], 0),
  (⟨"HookBoxesModel", "term", "(II)I"⟩, prog_12_method_39_code, 3, (Option.some Jvm.ClassFile.FieldType.int), 10, [2, 0, 0], 0),
  (⟨"HookBoxesModel", "isTerm", "(II)Z"⟩, prog_12_method_38_code, 3, (Option.some Jvm.ClassFile.FieldType.boolean), 10, [2, 0, 0], 3),
  (⟨"HookBoxesModel", "scaled", "(III)J"⟩, prog_12_method_40_code, 6, (Option.some Jvm.ClassFile.FieldType.long), 10, [2, 0, 0, 0], 1),
  (⟨"HookBoxesModel", "multiply", "(I)I"⟩, prog_12_method_47_code, 3, (Option.some Jvm.ClassFile.FieldType.int), 10, [2, 0], 0),
  (⟨"HookBoxesModel", "becomes", "(IIII)V"⟩, prog_12_method_45_code, 6, (Option.none : Option Jvm.ClassFile.FieldType), 10, [2, 0, 0, 0, 0], 9),
  (⟨"HookBoxesModel", "multiplies", "(II)V"⟩, prog_12_method_43_code, 9, (Option.none : Option Jvm.ClassFile.FieldType), 10, [2, 0, 0], 9),
  (⟨"HookBoxesModel", "lays", "(I)V"⟩, prog_12_method_41_code, 3, (Option.none : Option Jvm.ClassFile.FieldType), 10, [2, 0], 9),
  (⟨"HookBoxesModel", "ends", "()I"⟩, prog_12_method_46_code, 2, (Option.some Jvm.ClassFile.FieldType.int), 10, [2], 0),
  (⟨"HookBoxesModel", "there", "()I"⟩, prog_12_method_44_code, 3, (Option.some Jvm.ClassFile.FieldType.int), 10, [2], 0),
  (⟨"HookBoxesModel", "feed", "(IIIIII)I"⟩, prog_12_method_48_code, 9, (Option.some Jvm.ClassFile.FieldType.int), 10, [2, 0, 0, 0, 0, 0, 0], 0),
  (⟨"HookBoxesModel", "read", "()I"⟩, prog_12_method_57_code, 2, (Option.some Jvm.ClassFile.FieldType.int), 10, [2], 0),
  (⟨"HookBoxesModel", "goes", "(Z)I"⟩, prog_12_method_56_code, 3, (Option.some Jvm.ClassFile.FieldType.int), 10, [2, 0], 0),
  (⟨"HookBoxesModel", "sumOf", "(IZ)I"⟩, prog_12_method_55_code, 6, (Option.some Jvm.ClassFile.FieldType.int), 10, [2, 0, 0], 0),
  (⟨"HookBoxesModel", "product", "(IZ)I"⟩, prog_12_method_54_code, 5, (Option.some Jvm.ClassFile.FieldType.int), 10, [2, 0, 0], 0),
  (⟨"HookBoxesModel", "one", "(IZ)I"⟩, prog_12_method_53_code, 6, (Option.some Jvm.ClassFile.FieldType.int), 10, [2, 0, 0], 0),
  (⟨"HookBoxesModel", "isDigit", "()Z"⟩, prog_12_method_50_code, 1, (Option.some Jvm.ClassFile.FieldType.boolean), 10, [2], 3),
  (⟨"HookBoxesModel", "here", "()I"⟩, prog_12_method_49_code, 1, (Option.some Jvm.ClassFile.FieldType.int), 10, [2], 0),
  (⟨"HookBoxesModel", "digits", "(I)I"⟩, prog_12_method_51_code, 3, (Option.some Jvm.ClassFile.FieldType.int), 10, [2, 0], 0),
  (⟨"HookBoxesModel", "numberOf", "(I)I"⟩, prog_12_method_52_code, 4, (Option.some Jvm.ClassFile.FieldType.int), 10, [2, 0], 0),
  (⟨"HookBoxesModel", "adds", "(III)V"⟩, prog_12_method_42_code, 5, (Option.none : Option Jvm.ClassFile.FieldType), 10, [2, 0, 0, 0], 9),
  (⟨"HookBoxesModel", "drawn", "(III)I"⟩, prog_12_method_59_code, 5, (Option.some Jvm.ClassFile.FieldType.int), 10, [2, 0, 0, 0], 0)]
def hkMs4 : List (MethodName × ByteArray × Nat × Option FieldType × Nat × List Nat × Nat) := [(⟨"HookBoxesModel", "walk", "(II)I"⟩, prog_12_method_58_code, 8, (Option.some Jvm.ClassFile.FieldType.int), 10, [2, 0, 0], 0),
  (⟨"HookBoxesModel", "chance", "(IIIII)I"⟩, prog_12_method_61_code, 9, (Option.some Jvm.ClassFile.FieldType.int), 10, [2, 0, 0, 0, 0, 0], 0),
  (⟨"HookBoxesModel", "common", "(II)I"⟩, prog_12_method_60_code, 2, (Option.some Jvm.ClassFile.FieldType.int), 10, [0, 0], 0),
  (⟨"HookBoxesModel", "tells", "(III)I"⟩, prog_12_method_62_code, 5, (Option.some Jvm.ClassFile.FieldType.int), 10, [2, 0, 0, 0], 0),
  (⟨"HookBoxesModel", "film", "(III)I"⟩, prog_12_method_63_code, 5, (Option.some Jvm.ClassFile.FieldType.int), 10, [2, 0, 0, 0], 0),
  (⟨"HookBoxesModel", "image", "()I"⟩, prog_12_method_65_code, 2, (Option.some Jvm.ClassFile.FieldType.int), 10, [2], 0),
  (⟨"HookBoxesModel", "back", "()I"⟩, prog_12_method_66_code, 2, (Option.some Jvm.ClassFile.FieldType.int), 10, [2], 0),
  (⟨"HookBoxesModel", "load", "(IIII)I"⟩, prog_12_method_67_code, 8, (Option.some Jvm.ClassFile.FieldType.int), 10, [2, 0, 0, 0, 0], 0),
  (⟨"HookBoxesModel", "count", "(I)I"⟩, prog_12_method_68_code, 2, (Option.some Jvm.ClassFile.FieldType.int), 10, [2, 0], 0),
  (⟨"HookBoxesModel", "sheet", "(III)I"⟩, prog_12_method_69_code, 5, (Option.some Jvm.ClassFile.FieldType.int), 10, [2, 0, 0, 0], 0),
  (⟨"HookBoxesModel", "put", "(III)I"⟩, prog_12_method_70_code, 4, (Option.some Jvm.ClassFile.FieldType.int), 10, [2, 0, 0, 0], 0),
  (⟨"HookBoxesModel", "copy", "(IIIII)I"⟩, prog_12_method_71_code, 7, (Option.some Jvm.ClassFile.FieldType.int), 10, [2, 0, 0, 0, 0, 0], 0),
  (⟨"java/lang/Integer", "compare", "(II)I"⟩, prog_13_method_40_code, 2, (Option.some Jvm.ClassFile.FieldType.int), 12, [0, 0], 0),
  (⟨"java/lang/Integer", "bitCount", "(I)I"⟩, prog_13_method_49_code, 1, (Option.some Jvm.ClassFile.FieldType.int), 12, [0], 0),
  (⟨"java/lang/Math", "min", "(II)I"⟩, prog_14_method_69_code, 2, (Option.some Jvm.ClassFile.FieldType.int), 13, [0, 0], 0),
  (⟨"java/lang/Math", "max", "(II)I"⟩, prog_14_method_65_code, 2, (Option.some Jvm.ClassFile.FieldType.int), 13, [0, 0], 0),
  (⟨"java/lang/Math", "floorMod", "(II)I"⟩, prog_14_method_50_code, 3, (Option.some Jvm.ClassFile.FieldType.int), 13, [0, 0], 0),
  (⟨"java/lang/Math", "abs", "(J)J"⟩, prog_14_method_61_code, 2, (Option.some Jvm.ClassFile.FieldType.long), 13, [1], 1),
  (⟨"java/lang/Math", "abs", "(I)I"⟩, prog_14_method_59_code, 1, (Option.some Jvm.ClassFile.FieldType.int), 13, [0], 0),
  (⟨"java/util/Arrays", "fill", "([II)V"⟩, prog_16_method_103_code, 4, (Option.none : Option Jvm.ClassFile.FieldType), 14, [2, 0], 9),
  (⟨"java/util/Arrays", "fill", "([IIII)V"⟩, prog_16_method_104_code, 5, (Option.none : Option Jvm.ClassFile.FieldType), 14, [2, 0, 0, 0], 9),
  (⟨"java/util/Arrays", "rangeCheck", "(III)V"⟩, prog_16_method_30_code, 3, (Option.none : Option Jvm.ClassFile.FieldType), 14, [0, 0, 0], 9),
  (⟨"java/util/Arrays", "fill", "([JJ)V"⟩, prog_16_method_101_code, 5, (Option.none : Option Jvm.ClassFile.FieldType), 14, [2, 1], 9),
  (⟨"java/lang/Object", "<init>", "()V"⟩, object_method_1_code, 1, (Option.none : Option Jvm.ClassFile.FieldType), 15, [2], 9),
  (⟨"HookBoxesLaw", "law", "([I)Z"⟩, code, 4, (Option.some Jvm.ClassFile.FieldType.boolean), 11, [2], 3)]
def hkMs : List (MethodName × ByteArray × Nat × Option FieldType × Nat × List Nat × Nat) := hkMs0 ++ (hkMs1 ++ (hkMs2 ++ (hkMs3 ++ (hkMs4))))
abbrev hkMT : Type := MethodName × ByteArray × Nat × Option FieldType × Nat × List Nat × Nat
def hkM (y : Nat) : hkMT := hkMs.getD y (⟨"", "", ""⟩, code, 0, none, 99, [], 9)
def hkN (y : Nat) : MethodName := (hkM y).1
def hkB (y : Nat) : ByteArray := (hkM y).2.1
def hkX (y : Nat) : Nat := (hkM y).2.2.1
def hkR (y : Nat) : Option FieldType := (hkM y).2.2.2.1
def hkOwn (y : Nat) : Nat := (hkM y).2.2.2.2.1
def hkTg (y : Nat) : List Nat := (hkM y).2.2.2.2.2.1
def hkRt (y : Nat) : Nat := (hkM y).2.2.2.2.2.2
/-- the number of methods; the law is the last -/
abbrev hkNM : Nat := 185
def hkCW (q : hkMT) : Cond := .code q.1 q.2.1 q.2.2.1 q.2.2.2.1
set_option maxRecDepth 100000 in
set_option maxHeartbeats 4000000 in
theorem hkCWs0 : [81, 438, 441, 445, 460, 468, 477, 510, 514, 551, 559, 563, 566, 579, 618, 622, 626, 631, 664, 667, 675, 741, 756, 759, 763, 767, 784, 788, 792, 799, 803, 807, 811, 89, 94, 101, 105, 109, 231, 464].map (fun i => lw_tbl[i]?) = (hkMs0).map (fun q => some (hkCW q)) := by rfl
set_option maxRecDepth 100000 in
set_option maxHeartbeats 4000000 in
theorem hkCWs1 : [472, 481, 485, 490, 494, 498, 502, 506, 181, 223, 208, 213, 219, 518, 522, 532, 543, 547, 647, 750, 257, 451, 583, 587, 590, 594, 597, 602, 606, 610, 283, 635, 643, 652, 300, 671, 679, 683, 687, 691].map (fun i => lw_tbl[i]?) = (hkMs1).map (fun q => some (hkCW q)) := by rfl
set_option maxRecDepth 100000 in
set_option maxHeartbeats 4000000 in
theorem hkCWs2 : [695, 699, 703, 708, 712, 717, 727, 307, 455, 660, 721, 732, 356, 745, 380, 570, 574, 771, 776, 780, 815, 821, 827, 831, 834, 838, 964, 968, 973, 977, 981, 985, 989, 993, 997, 1001, 1005, 1009, 1013, 1017].map (fun i => lw_tbl[i]?) = (hkMs2).map (fun q => some (hkCW q)) := by rfl
set_option maxRecDepth 100000 in
set_option maxHeartbeats 4000000 in
theorem hkCWs3 : [1022, 1026, 1030, 1034, 1038, 1043, 1047, 1051, 1057, 1061, 1064, 1070, 1074, 1078, 1081, 1085, 1088, 1092, 1096, 1100, 1104, 1108, 1113, 1117, 1121, 1125, 1131, 1135, 1139, 1144, 1148, 1152, 1156, 1160, 1164, 1168, 1174, 1178, 1182, 1186].map (fun i => lw_tbl[i]?) = (hkMs3).map (fun q => some (hkCW q)) := by rfl
set_option maxRecDepth 100000 in
set_option maxHeartbeats 4000000 in
theorem hkCWs4 : [1191, 1196, 1199, 1203, 1207, 1211, 1215, 1219, 1223, 1227, 1232, 1236, 227, 536, 115, 555, 614, 656, 735, 97, 525, 528, 638, 84].map (fun i => lw_tbl[i]?) = (hkMs4.take 24).map (fun q => some (hkCW q)) := by rfl
/-- links of methods: own, index, method, kind (0 virtual, 1 special, 2 static, 3 a nest mate's constructor), places of the words -/
def hkCT0 : List (Nat × Nat × Nat × List Nat) := [(1, 36, 34, [91, 92, 93, 63]), (1, 59, 35, [98, 100, 0, 63]), (1, 63, 36, [102, 104, 1, 63]), (1, 72, 37, [106, 107, 108, 63]), (3, 34, 51, [210, 211, 212, 68]), (3, 56, 52, [216, 218, 2, 68]), (3, 63, 49, [220, 221, 222, 67]), (2, 31, 37, [224, 107, 108, 63]), (2, 43, 38, [228, 229, 230, 63]), (11, 13, 1, [435, 436, 437, 62]), (0, 92, 3, [442, 444, 3, 62]), (0, 273, 34, [446, 92, 93, 63]), (0, 274, 51, [447, 211, 212, 68]), (0, 277, 61, [448, 449, 450, 70]), (0, 96, 88, [452, 453, 454, 73]), (11, 18, 4, [457, 458, 459, 62]), (0, 103, 39, [461, 462, 463, 63]), (11, 22, 5, [465, 466, 467, 62]), (0, 114, 40, [469, 470, 471, 63]), (1, 81, 38, [473, 229, 230, 63]), (11, 27, 6, [474, 475, 476, 62]), (0, 121, 41, [478, 479, 480, 63]), (0, 124, 42, [482, 483, 484, 63]), (1, 85, 41, [486, 479, 480, 63]), (0, 130, 43, [487, 488, 489, 63]), (1, 88, 44, [491, 493, 4, 63]), (0, 133, 45, [495, 496, 497, 63]), (1, 91, 46, [499, 501, 5, 63]), (0, 136, 47, [503, 504, 505, 63]), (11, 31, 7, [507, 508, 509, 62]), (11, 35, 8, [511, 512, 513, 62]), (0, 139, 53, [515, 516, 517, 68]), (3, 90, 54, [519, 520, 521, 68]), (3, 105, 55, [529, 531, 6, 68]), (3, 109, 41, [533, 479, 480, 63]), (3, 116, 56, [540, 542, 7, 68]), (0, 143, 57, [544, 545, 546, 68]), (11, 40, 9, [548, 549, 550, 62]), (11, 45, 10, [556, 557, 558, 62]), (11, 49, 11, [560, 561, 562, 62]), (0, 158, 95, [567, 568, 569, 75]), (0, 165, 96, [571, 572, 573, 75]), (0, 171, 49, [575, 221, 222, 67]), (11, 53, 13, [576, 577, 578, 62]), (0, 187, 62, [580, 581, 582, 70]), (4, 53, 63, [584, 586, 8, 70]), (4, 45, 65, [591, 593, 9, 70]), (4, 61, 67, [599, 601, 10, 70]), (4, 65, 68, [603, 605, 11, 70]), (4, 68, 69, [607, 609, 12, 70]), (4, 75, 37, [611, 107, 108, 63]), (11, 57, 14, [615, 616, 617, 62]), (11, 61, 15, [619, 620, 621, 62]), (11, 65, 16, [623, 624, 625, 62]), (11, 70, 17, [628, 629, 630, 62]), (0, 194, 71, [632, 633, 634, 71]), (5, 35, 54, [639, 520, 521, 68]), (5, 41, 72, [640, 642, 13, 71]), (5, 49, 58, [644, 645, 646, 68]), (5, 63, 57, [648, 545, 546, 68]), (5, 45, 73, [649, 651, 14, 71]), (0, 198, 89, [657, 658, 659, 73]), (11, 74, 18, [661, 662, 663, 62]), (0, 206, 75, [668, 669, 670, 72]), (11, 79, 20, [672, 673, 674, 62]), (0, 210, 76, [676, 677, 678, 72]), (6, 47, 77, [680, 682, 15, 72]), (6, 58, 78, [684, 686, 16, 72]), (6, 77, 79, [688, 690, 17, 72]), (6, 65, 80, [692, 694, 18, 72]), (6, 92, 81, [696, 698, 19, 72]), (6, 51, 82, [700, 702, 20, 72]), (6, 95, 88, [704, 453, 454, 73]), (6, 101, 83, [705, 707, 21, 72]), (6, 107, 84, [709, 711, 22, 72]), (6, 110, 40, [713, 470, 471, 63]), (6, 104, 85, [714, 716, 23, 72]), (6, 61, 90, [718, 719, 720, 73]), (6, 69, 86, [724, 726, 24, 72]), (6, 86, 71, [728, 633, 634, 71]), (6, 73, 91, [729, 730, 731, 73]), (0, 224, 90, [737, 719, 720, 73]), (11, 84, 21, [738, 739, 740, 62]), (0, 228, 93, [742, 743, 744, 74]), (8, 32, 59, [747, 748, 749, 68]), (3, 93, 58, [751, 645, 646, 68]), (8, 38, 57, [752, 545, 546, 68]), (11, 88, 22, [753, 754, 755, 62]), (11, 93, 24, [760, 761, 762, 62]), (11, 97, 25, [764, 765, 766, 62]), (0, 238, 97, [768, 769, 770, 75]), (0, 240, 98, [773, 774, 775, 75]), (9, 28, 99, [777, 778, 779, 75]), (11, 101, 26, [781, 782, 783, 62]), (11, 105, 27, [785, 786, 787, 62]), (11, 109, 28, [789, 790, 791, 62]), (0, 255, 99, [793, 778, 779, 75]), (11, 113, 29, [796, 797, 798, 62]), (11, 117, 30, [800, 801, 802, 62]), (11, 121, 31, [804, 805, 806, 62]), (11, 125, 32, [808, 809, 810, 62]), (0, 263, 100, [812, 813, 814, 75]), (10, 94, 102, [824, 826, 25, 76]), (10, 100, 103, [828, 830, 26, 76]), (10, 108, 105, [835, 837, 27, 76]), (11, 17, 106, [961, 962, 963, 76]), (11, 21, 108, [970, 971, 972, 76]), (10, 123, 109, [974, 976, 28, 76]), (10, 111, 110, [978, 980, 29, 76]), (11, 26, 111, [982, 983, 984, 76]), (10, 127, 112, [986, 988, 30, 76]), (11, 30, 113, [990, 991, 992, 76]), (10, 133, 114, [994, 996, 31, 76]), (10, 130, 115, [998, 1000, 32, 76]), (10, 136, 116, [1002, 1004, 33, 76]), (10, 139, 117, [1006, 1008, 34, 76]), (10, 142, 118, [1010, 1012, 35, 76]), (11, 34, 119, [1014, 1015, 1016, 76]), (11, 39, 120, [1019, 1020, 1021, 76]), (10, 177, 121, [1023, 1025, 36, 76]), (10, 173, 122, [1027, 1029, 37, 76]), (10, 169, 123, [1031, 1033, 38, 76]), (10, 161, 124, [1035, 1037, 39, 76]), (10, 165, 125, [1040, 1042, 40, 76]), (10, 181, 126, [1044, 1046, 41, 76]), (11, 44, 127, [1048, 1049, 1050, 76]), (11, 48, 128, [1054, 1055, 1056, 76]), (11, 52, 129, [1058, 1059, 1060, 76]), (11, 56, 131, [1067, 1068, 1069, 76]), (10, 218, 132, [1071, 1073, 42, 76]), (10, 212, 133, [1075, 1077, 43, 76]), (10, 204, 135, [1082, 1084, 44, 76]), (11, 60, 138, [1093, 1094, 1095, 76]), (11, 64, 139, [1097, 1098, 1099, 76]), (10, 221, 140, [1101, 1103, 45, 76]), (11, 69, 141, [1105, 1106, 1107, 76]), (11, 73, 142, [1110, 1111, 1112, 76]), (10, 241, 143, [1114, 1116, 46, 76]), (10, 244, 144, [1118, 1120, 47, 76]), (10, 235, 145, [1122, 1124, 48, 76]), (10, 248, 146, [1128, 1130, 49, 76]), (10, 238, 147, [1132, 1134, 50, 76]), (11, 78, 148, [1136, 1137, 1138, 76]), (11, 83, 149, [1141, 1142, 1143, 76]), (10, 293, 150, [1145, 1147, 51, 76]), (10, 279, 151, [1149, 1151, 52, 76]), (10, 286, 152, [1153, 1155, 53, 76]), (10, 283, 153, [1157, 1159, 54, 76]), (10, 266, 154, [1161, 1163, 55, 76]), (10, 259, 155, [1165, 1167, 56, 76]), (10, 270, 156, [1171, 1173, 57, 76]), (10, 273, 157, [1175, 1177, 58, 76]), (10, 289, 158, [1179, 1181, 59, 76]), (11, 87, 159, [1183, 1184, 1185, 76]), (10, 306, 160, [1188, 1190, 60, 76]), (11, 92, 161, [1193, 1194, 1195, 76]), (11, 96, 163, [1200, 1201, 1202, 76]), (11, 100, 164, [1204, 1205, 1206, 76]), (11, 104, 165, [1208, 1209, 1210, 76]), (11, 108, 166, [1212, 1213, 1214, 76]), (11, 112, 167, [1216, 1217, 1218, 76]), (11, 116, 168, [1220, 1221, 1222, 76]), (11, 120, 169, [1224, 1225, 1226, 76]), (11, 124, 170, [1229, 1230, 1231, 76]), (11, 128, 171, [1233, 1234, 1235, 76])]
def hkCT1 : List (Nat × Nat × Nat × List Nat) := [(11, 9, 0, [79, 80, 62]), (0, 13, 33, [87, 88, 63]), (0, 20, 48, [179, 180, 67]), (0, 29, 50, [206, 207, 68]), (0, 38, 60, [255, 256, 70]), (0, 45, 70, [281, 282, 71]), (0, 54, 74, [298, 299, 72]), (0, 63, 92, [354, 355, 74]), (11, 12, 101, [819, 820, 76])]
def hkCT2 : List (Nat × Nat × Nat × List Nat) := [(1, 53, 179, [95, 96, 64]), (1, 66, 174, [113, 114, 66]), (3, 37, 179, [214, 96, 64]), (2, 38, 172, [225, 226, 69]), (3, 78, 174, [232, 114, 66]), (0, 88, 2, [439, 440, 62]), (7, 15, 179, [456, 96, 64]), (3, 102, 180, [523, 524, 64]), (14, 13, 181, [526, 527, 64]), (3, 113, 173, [534, 535, 69]), (0, 146, 174, [552, 114, 66]), (0, 152, 175, [553, 554, 66]), (0, 155, 12, [564, 565, 62]), (4, 41, 64, [588, 589, 70]), (4, 49, 66, [595, 596, 70]), (4, 56, 173, [598, 535, 69]), (4, 78, 176, [612, 613, 66]), (5, 23, 182, [636, 637, 64]), (5, 69, 177, [654, 655, 66]), (0, 202, 19, [665, 666, 62]), (6, 80, 175, [723, 554, 66]), (7, 27, 178, [733, 734, 66]), (0, 235, 23, [757, 758, 62]), (9, 22, 179, [772, 96, 64]), (10, 104, 104, [832, 833, 76]), (10, 115, 107, [966, 967, 76]), (10, 156, 174, [1039, 114, 66]), (10, 186, 175, [1053, 554, 66]), (10, 189, 130, [1062, 1063, 76]), (10, 198, 134, [1079, 1080, 76]), (10, 201, 136, [1086, 1087, 76]), (10, 208, 137, [1090, 1091, 76]), (10, 309, 162, [1197, 1198, 76])]
def hkCT3 : List (Nat × Nat × Nat × List Nat) := [(6, 32, 87, [305, 306, 73]), (0, 70, 87, [374, 306, 73]), (0, 87, 94, [378, 379, 75])]
def hkCT4 : List (Nat × Nat × Nat × List Nat) := [(0, 5, 183, [82, 83, 84]), (1, 3, 183, [90, 83, 84]), (2, 3, 183, [182, 83, 84]), (3, 5, 183, [209, 83, 84]), (4, 3, 183, [258, 83, 84]), (5, 3, 183, [284, 83, 84]), (6, 3, 183, [301, 83, 84]), (7, 3, 183, [308, 83, 84]), (8, 3, 183, [357, 83, 84]), (9, 3, 183, [381, 83, 84]), (10, 5, 183, [822, 83, 84])]
def hkCT5 : List (Nat × Nat × Nat × List Nat) := [(1, 75, 999, [110]), (7, 21, 999, [722]), (0, 267, 999, [816])]
def hkFL : List (Nat × Nat × Nat × Nat × Nat) := [(1, 40, 1, 0, 116), (2, 26, 1, 0, 117), (3, 53, 1, 0, 118), (4, 32, 1, 0, 119), (0, 107, 1, 0, 120), (1, 44, 1, 1, 121), (2, 35, 1, 1, 122), (4, 38, 1, 1, 123), (3, 87, 1, 1, 124), (0, 246, 1, 1, 125), (1, 47, 1, 2, 126), (3, 50, 1, 2, 127), (1, 50, 1, 3, 128), (3, 44, 1, 3, 129), (8, 27, 1, 3, 130), (0, 99, 1, 3, 131), (1, 9, 1, 4, 132), (3, 60, 1, 4, 133), (0, 110, 1, 4, 134), (4, 72, 1, 4, 135), (1, 15, 1, 5, 136), (3, 84, 1, 5, 137), (0, 118, 1, 5, 138), (1, 18, 1, 6, 139), (0, 127, 1, 6, 140), (1, 21, 1, 7, 141), (5, 60, 1, 7, 142), (3, 99, 1, 7, 143), (1, 24, 1, 8, 144), (5, 52, 1, 8, 145), (3, 96, 1, 8, 146), (1, 27, 1, 9, 147), (3, 72, 1, 9, 148), (1, 30, 1, 10, 149), (1, 33, 1, 11, 150), (2, 19, 2, 0, 183), (3, 75, 2, 0, 184), (0, 175, 2, 0, 185), (2, 23, 2, 1, 186), (0, 178, 2, 1, 187), (2, 47, 2, 2, 188), (3, 69, 2, 2, 189), (0, 181, 2, 2, 190), (2, 15, 2, 3, 191), (2, 9, 2, 4, 192), (3, 26, 3, 0, 233), (3, 30, 3, 1, 234), (3, 11, 3, 2, 235), (3, 17, 3, 3, 236), (5, 57, 3, 3, 237), (3, 20, 3, 4, 238), (3, 23, 3, 5, 239), (4, 9, 4, 0, 259), (0, 184, 4, 0, 260), (4, 28, 4, 1, 261), (4, 15, 4, 2, 262), (4, 18, 4, 3, 263), (4, 21, 4, 4, 264), (4, 24, 4, 5, 265), (5, 15, 5, 0, 285), (5, 19, 5, 1, 286), (5, 11, 5, 2, 287), (7, 9, 7, 0, 309), (5, 29, 7, 0, 310), (6, 98, 7, 0, 311), (0, 189, 7, 0, 312), (6, 33, 6, 0, 316), (0, 205, 6, 0, 317), (6, 55, 6, 1, 318), (0, 260, 6, 1, 319), (6, 40, 6, 2, 320), (0, 213, 6, 2, 321), (6, 43, 6, 3, 322), (0, 216, 6, 3, 323), (6, 11, 6, 4, 324), (0, 220, 6, 4, 325), (6, 17, 6, 5, 326), (6, 20, 6, 6, 327), (6, 37, 6, 7, 328), (6, 24, 6, 8, 329), (6, 28, 6, 9, 330), (8, 19, 8, 0, 358), (0, 231, 8, 0, 359), (8, 23, 8, 1, 360), (0, 234, 8, 1, 361), (8, 9, 8, 2, 362), (8, 15, 8, 3, 363), (9, 9, 9, 0, 382), (0, 252, 9, 0, 383), (9, 19, 9, 1, 384), (0, 162, 9, 1, 385), (9, 15, 9, 2, 386), (0, 168, 9, 2, 387), (0, 14, 0, 0, 395), (0, 23, 0, 1, 396), (0, 32, 0, 2, 397), (0, 39, 0, 3, 398), (0, 48, 0, 4, 399), (0, 57, 0, 5, 400), (0, 64, 0, 6, 401), (0, 71, 0, 7, 402), (0, 75, 0, 8, 403), (0, 78, 0, 9, 404), (0, 243, 0, 10, 405), (0, 249, 0, 11, 406), (0, 83, 0, 12, 407), (10, 11, 10, 0, 839), (10, 15, 10, 1, 840), (10, 97, 10, 2, 841), (10, 18, 10, 3, 842), (10, 22, 10, 4, 843), (10, 25, 10, 5, 844), (10, 29, 10, 6, 845), (10, 32, 10, 7, 846), (10, 36, 10, 8, 847), (10, 39, 10, 9, 848), (10, 312, 10, 10, 849), (10, 315, 10, 11, 850), (10, 297, 10, 12, 851), (10, 318, 10, 13, 852), (10, 42, 10, 14, 853), (10, 45, 10, 15, 854), (10, 147, 10, 16, 855), (10, 150, 10, 17, 856), (10, 153, 10, 18, 857), (10, 48, 10, 19, 858), (10, 51, 10, 20, 859), (10, 54, 10, 21, 860), (10, 57, 10, 22, 861), (10, 60, 10, 23, 862), (10, 63, 10, 24, 863), (10, 66, 10, 25, 864), (10, 215, 10, 26, 865), (10, 69, 10, 27, 866), (10, 72, 10, 28, 867), (10, 227, 10, 29, 868), (10, 76, 10, 30, 869), (10, 79, 10, 31, 870), (10, 253, 10, 32, 871), (10, 256, 10, 33, 872), (10, 276, 10, 34, 873), (10, 300, 10, 35, 874), (10, 82, 10, 36, 875), (10, 85, 10, 37, 876), (10, 88, 10, 38, 877), (10, 91, 10, 39, 878)]
def hkCN : List (Nat × Nat × Nat × Nat) := [(11, 7, 0, 77), (0, 11, 1, 85), (0, 18, 2, 177), (0, 27, 3, 204), (0, 36, 4, 253), (0, 43, 5, 279), (0, 52, 6, 296), (6, 9, 7, 302), (0, 61, 8, 352), (0, 68, 7, 373), (0, 81, 9, 375), (11, 10, 10, 817)]
def hkKI : List (Nat × Nat × Int × Nat) := [(3, 43, -2147483648, 215), (12, 265, 1431655765, 537), (12, 266, 858993459, 538), (12, 267, 252645135, 539), (7, 33, 1000000, 736), (8, 26, 1103515245, 746), (0, 258, -1000000, 794), (0, 259, 1000000, 795), (10, 28, 42875, 823), (10, 303, 1103515245, 1192)]
def hkKJ : List (Nat × Nat × Int × Nat) := [(0, 192, -9223372036854775808, 627), (5, 67, 1000000, 653), (10, 119, 4, 965), (10, 121, 7, 969), (10, 145, 5, 1018), (10, 184, 3, 1052), (10, 192, 2, 1065), (10, 194, 20, 1066), (10, 196, 2521, 1089), (10, 225, -9223372036854775808, 1109), (10, 231, -1000000, 1126), (10, 233, 1000000, 1127), (10, 251, 255, 1140), (10, 262, 48, 1169), (10, 264, 57, 1170), (10, 304, 40, 1187), (10, 321, -1, 1228)]
def hkPl : List (Nat × Nat) := [(0, 13), (1, 12), (100, 140), (100, 35), (100, 35), (100, 35), (100, 7), (100, 35), (100, 128), (100, 4), (2, 5), (100, 4), (3, 6), (100, 1225), (100, 6125), (100, 25), (100, 4), (4, 6), (100, 8), (100, 49), (100, 49), (100, 4), (5, 3), (101, 630), (6, 10), (103, 6), (103, 5), (100, 60), (7, 1), (100, 280), (7, 1), (100, 280), (7, 1), (100, 280), (7, 1), (100, 280), (7, 1), (100, 280), (7, 1), (100, 280), (7, 1), (100, 280), (7, 1), (100, 280), (7, 1), (100, 280), (7, 1), (100, 280), (7, 1), (100, 280), (8, 4), (7, 1), (100, 280), (7, 1), (100, 280), (7, 1), (100, 280), (104, 4), (9, 3), (100, 40), (9, 3), (100, 40), (9, 3), (100, 40), (9, 3), (100, 40), (10, 40), (100, 140), (100, 128), (100, 35), (100, 42875), (102, 1225), (100, 280), (100, 280), (100, 4), (100, 4), (100, 35), (100, 35), (100, 4), (100, 4), (100, 7), (100, 4), (100, 8), (100, 4480), (101, 840), (100, 60), (100, 5), (100, 4), (100, 4), (100, 160), (100, 40)]
/-- what the constructors do, in order: (0, p, 0, 0) place p is made; (1, p, k, v) item k of p becomes place v -/
def hkEV : List (Nat × Nat × Nat × Nat) := [(0, 0, 0, 0), (0, 1, 0, 0), (0, 2, 0, 0), (1, 1, 4, 2), (0, 3, 0, 0), (1, 1, 5, 3), (0, 4, 0, 0), (1, 1, 6, 4), (0, 5, 0, 0), (1, 1, 7, 5), (0, 6, 0, 0), (1, 1, 8, 6), (0, 7, 0, 0), (1, 1, 9, 7), (0, 8, 0, 0), (1, 1, 10, 8), (0, 9, 0, 0), (1, 1, 11, 9), (1, 0, 0, 1), (0, 10, 0, 0), (0, 11, 0, 0), (1, 10, 4, 11), (1, 10, 3, 1), (1, 0, 1, 10), (0, 12, 0, 0), (0, 13, 0, 0), (1, 12, 2, 13), (0, 14, 0, 0), (1, 12, 3, 14), (0, 15, 0, 0), (1, 12, 4, 15), (0, 16, 0, 0), (1, 12, 5, 16), (1, 12, 0, 1), (1, 12, 1, 10), (1, 0, 2, 12), (0, 17, 0, 0), (0, 18, 0, 0), (1, 17, 0, 18), (0, 19, 0, 0), (1, 17, 2, 19), (0, 20, 0, 0), (1, 17, 3, 20), (0, 21, 0, 0), (1, 17, 4, 21), (1, 17, 1, 1), (1, 0, 3, 17), (0, 22, 0, 0), (0, 23, 0, 0), (1, 22, 2, 23), (1, 22, 0, 1), (1, 22, 1, 12), (1, 0, 4, 22), (0, 24, 0, 0), (0, 25, 0, 0), (1, 24, 4, 25), (0, 26, 0, 0), (1, 24, 5, 26), (0, 27, 0, 0), (1, 24, 6, 27), (1, 24, 8, 1), (1, 24, 9, 22), (0, 28, 0, 0), (0, 29, 0, 0), (1, 28, 0, 29), (1, 25, 0, 28), (0, 30, 0, 0), (0, 31, 0, 0), (1, 30, 0, 31), (1, 25, 1, 30), (0, 32, 0, 0), (0, 33, 0, 0), (1, 32, 0, 33), (1, 25, 2, 32), (0, 34, 0, 0), (0, 35, 0, 0), (1, 34, 0, 35), (1, 25, 3, 34), (0, 36, 0, 0), (0, 37, 0, 0), (1, 36, 0, 37), (1, 25, 4, 36), (0, 38, 0, 0), (0, 39, 0, 0), (1, 38, 0, 39), (1, 25, 5, 38), (0, 40, 0, 0), (0, 41, 0, 0), (1, 40, 0, 41), (1, 26, 0, 40), (0, 42, 0, 0), (0, 43, 0, 0), (1, 42, 0, 43), (1, 26, 1, 42), (0, 44, 0, 0), (0, 45, 0, 0), (1, 44, 0, 45), (1, 26, 2, 44), (0, 46, 0, 0), (0, 47, 0, 0), (1, 46, 0, 47), (1, 26, 3, 46), (0, 48, 0, 0), (0, 49, 0, 0), (1, 48, 0, 49), (1, 26, 4, 48), (1, 0, 5, 24), (0, 50, 0, 0), (1, 50, 2, 1), (1, 50, 3, 12), (1, 0, 6, 50), (0, 51, 0, 0), (0, 52, 0, 0), (1, 51, 0, 52), (1, 0, 7, 51), (0, 53, 0, 0), (0, 54, 0, 0), (1, 53, 0, 54), (1, 0, 8, 53), (0, 55, 0, 0), (0, 56, 0, 0), (1, 55, 0, 56), (1, 0, 9, 55), (0, 57, 0, 0), (1, 0, 12, 57), (0, 58, 0, 0), (0, 59, 0, 0), (1, 58, 2, 59), (1, 57, 0, 58), (0, 60, 0, 0), (0, 61, 0, 0), (1, 60, 2, 61), (1, 57, 1, 60), (0, 62, 0, 0), (0, 63, 0, 0), (1, 62, 2, 63), (1, 57, 2, 62), (0, 64, 0, 0), (0, 65, 0, 0), (1, 64, 2, 65), (1, 57, 3, 64), (0, 66, 0, 0), (0, 67, 0, 0), (1, 66, 3, 67), (0, 68, 0, 0), (1, 66, 4, 68), (0, 69, 0, 0), (1, 66, 5, 69), (0, 70, 0, 0), (1, 66, 6, 70), (0, 71, 0, 0), (1, 66, 7, 71), (0, 72, 0, 0), (1, 66, 8, 72), (0, 73, 0, 0), (1, 66, 9, 73), (0, 74, 0, 0), (1, 66, 14, 74), (0, 75, 0, 0), (1, 66, 15, 75), (0, 76, 0, 0), (1, 66, 19, 76), (0, 77, 0, 0), (1, 66, 20, 77), (0, 78, 0, 0), (1, 66, 21, 78), (0, 79, 0, 0), (1, 66, 22, 79), (0, 80, 0, 0), (1, 66, 23, 80), (0, 81, 0, 0), (1, 66, 24, 81), (0, 82, 0, 0), (1, 66, 25, 82), (0, 83, 0, 0), (1, 66, 27, 83), (0, 84, 0, 0), (1, 66, 28, 84), (0, 85, 0, 0), (1, 66, 30, 85), (0, 86, 0, 0), (1, 66, 31, 86), (0, 87, 0, 0), (1, 66, 36, 87), (0, 88, 0, 0), (1, 66, 37, 88), (0, 89, 0, 0), (1, 66, 38, 89), (0, 90, 0, 0), (1, 66, 39, 90)]
abbrev hkT : Nat := 190
end
section
/-! THE PURE MACHINE: whole numbers, places, one memory; made so that a run of it is a run of the machine (part 04 and on) -/
def hkW (x : Int) : Int := Int.bmod x 4294967296
def hkL (x : Int) : Int := Int.bmod x 18446744073709551616
/-- where, locals, stack, how many of the constructors' events have been, memory -/
abbrev hkC : Type := Nat × List hkV × List hkV × Nat × hkG
/-- a call: method, arguments, where it goes on, locals, the stack below -/
abbrev hkK : Type := Nat × List hkV × Nat × List hkV × List hkV
abbrev hkO : Type := Option (hkC ⊕ (hkK ⊕ Option hkV))
def hkU : hkV := (9, 0)
def hkAT (p k : Nat) : Nat := match hkEV.findIdx? (fun e => e.1 == 1 && (e.2.1 == p && e.2.2.1 == k)) with
  | some i => i + 1
  | none => 9999
def hkRF (p k : Nat) : Nat := match hkEV.find? (fun e => e.1 == 1 && (e.2.1 == p && e.2.2.1 == k)) with
  | some e => e.2.2.2
  | none => 0
def hkNX (t : Nat) : Nat := ((hkEV.take t).filter (fun e => e.1 == 0)).length
def hkKd (p : Nat) : Nat := (hkPl.getD p (999, 0)).1
def hkLn (p : Nat) : Nat := (hkPl.getD p (999, 0)).2
def hkNS (t : Nat) : Nat := ((hkPl.take (hkNX t)).map (fun q => q.2)).sum
def hkJK (p : Int) : Nat := if p < 0 then 999 else hkKd p.toNat
def hkSet (g : hkG) (p i v : Int) : hkG := fun q j => if q = p ∧ j = i then v else g q j
def hkCpy (g : hkG) (p i q j n : Int) : hkG := fun r k => if r = q ∧ j ≤ k ∧ k < j + n then g p (i + (k - j)) else g r k
def hkPush (r : Option hkV) (st : List hkV) : List hkV := match r with
  | some v => v :: st
  | none => st
def hkP1 (v : hkV) : Prop := v.1 ≠ 1
def hkPv (ls : List hkV) (i : Nat) : Prop := match i with
  | 0 => True
  | k + 1 => hkP1 (ls.getD k hkU)
def hkAnd (a b : Int) : Int := (Int32.ofInt a &&& Int32.ofInt b).toInt
def hkOr (a b : Int) : Int := (Int32.ofInt a ||| Int32.ofInt b).toInt
def hkXor (a b : Int) : Int := (Int32.ofInt a ^^^ Int32.ofInt b).toInt
def hkShl (a b : Int) : Int := (Int32.ofInt a <<< (Int32.ofInt b &&& 31)).toInt
def hkShr (a b : Int) : Int := (Int32.ofInt a >>> (Int32.ofInt b &&& 31)).toInt
def hkUsh (a b : Int) : Int := ((Int32.ofInt a).toUInt32 >>> ((Int32.ofInt b).toUInt32 &&& Int32.toUInt32 31)).toInt32.toInt
def hkCmp (a b : Int) : Int := if a < b then -1 else if a = b then 0 else 1
def hkHolds (c : ClassFile.Cond) (a b : Int) : Prop := match c with
  | .eq => a = b
  | .ne => a ≠ b
  | .lt => a < b
  | .ge => b ≤ a
  | .gt => b < a
  | .le => a ≤ b
def hkGo (pc : Nat) (ls st : List hkV) (t : Nat) (g : hkG) : hkO := some (.inl (pc, ls, st, t, g))
noncomputable def hkChk (c : Prop) (r : hkO) : hkO := @ite _ c (Classical.propDecidable c) r none
noncomputable def hkBr (c : Prop) (a b : hkO) : hkO := @ite _ c (Classical.propDecidable c) a b
def hkLen : Instr → Nat
  | .tableswitch _ _ _ _ => 0
  | .bipush _ => 2
  | .iload _ => 2
  | .lload _ => 2
  | .aload _ => 2
  | .istore _ => 2
  | .lstore _ => 2
  | .astore _ => 2
  | .ldc _ => 2
  | .newarray _ => 2
  | .sipush _ => 3
  | .iinc _ _ => 3
  | .getfield _ => 3
  | .putfield _ => 3
  | .invokevirtual _ => 3
  | .invokespecial _ => 3
  | .invokestatic _ => 3
  | .new _ => 3
  | .anewarray _ => 3
  | .ifCond _ _ => 3
  | .if_icmp _ _ => 3
  | .goto _ => 3
  | .ldc_w _ => 3
  | .ldc2_w _ => 3
  | _ => 1
def hkFetch (y pc : Nat) : Option (Instr × Nat) := match decode (hkB y) pc with
  | .ok (i, n) => if hkLen i = n ∨ hkLen i = 0 then some (i, n) else none
  | _ => none
def hkFind (l : List (Nat × Nat × Nat × List Nat)) (own idx : Nat) : Option Nat := (l.find? (fun q => q.1 == own && q.2.1 == idx)).map (fun q => q.2.2.1)
def hkFld (own idx : Nat) : Option (Nat × Nat) := (hkFL.find? (fun q => q.1 == own && q.2.1 == idx)).map (fun q => (q.2.2.1, q.2.2.2.1))
def hkCls (own idx : Nat) : Option Nat := (hkCN.find? (fun q => q.1 == own && q.2.1 == idx)).map (fun q => q.2.2.1)
def hkCst (own idx : Nat) : Option Int := (hkKI.find? (fun q => q.1 == own && q.2.1 == idx)).map (fun q => q.2.2.1)
def hkCsl (own idx : Nat) : Option Int := (hkKJ.find? (fun q => q.1 == own && q.2.1 == idx)).map (fun q => q.2.2.1)
def hkPop : List Nat → List hkV → Option (List hkV × List hkV)
  | [], st => some ([], st)
  | _ :: _, [] => none
  | tg :: r, v :: st => if v.1 = tg then (match hkPop r st with
    | some (as, st2) => some (as ++ [v], st2)
    | none => none) else none
def hkCat (v : hkV) : Nat := if v.1 = 1 then 2 else 1
def hkEnt (n : Nat) (as : List hkV) : List hkV :=
  let l := as.flatMap (fun v => if v.1 = 1 then [v, hkU] else [v])
  l ++ List.replicate (n - l.length) hkU
def hkInv (y' pc : Nat) (ls st : List hkV) : hkO := match hkPop (hkTg y').reverse st with
  | some (as, rest) => if (rest.map hkCat).sum ≤ 8 then some (.inr (.inl (y', as, pc, ls, rest))) else none
  | none => none
def hkFst (as : List hkV) : Int := match as with
  | v :: _ => v.2
  | [] => -1
noncomputable def hkInvV (y' pc : Nat) (ls st : List hkV) : hkO := match hkPop (hkTg y').reverse st with
  | some (as, rest) => hkChk (hkJK (hkFst as) = hkOwn y') (if (rest.map hkCat).sum ≤ 8 then some (.inr (.inl (y', as, pc, ls, rest))) else none)
  | none => none
def hkAtC : ArrayType → Nat
  | .int => 100
  | .long => 101
  | .boolean => 102
  | _ => 998
noncomputable def hkGetf (y idx pc : Nat) (ls st : List hkV) (t : Nat) (g : hkG) : hkO := match st, hkFld (hkOwn y) idx with
  | (2, p) :: st, some (ci, k) => hkChk (hkJK p = ci) (if hkFT ci k = 2 then hkChk (hkAT p.toNat k ≤ t) (hkGo pc ls ((2, (hkRF p.toNat k : Int)) :: st) t g) else hkGo pc ls ((0, g p k) :: st) t g)
  | _, _ => none
noncomputable def hkPutf (y idx pc : Nat) (ls st : List hkV) (t : Nat) (g : hkG) : hkO := match st, hkFld (hkOwn y) idx with
  | (0, x) :: (2, p) :: st, some (ci, k) => hkChk (hkJK p = ci) (if hkFT ci k = 0 then hkGo pc ls st t (hkSet g p k x) else if hkFT ci k = 3 then hkChk (x = 0 ∨ x = 1) (hkGo pc ls st t (hkSet g p k x)) else none)
  | (2, v) :: (2, p) :: st, some (ci, k) => if hkFT ci k = 2 then hkChk (hkJK p = ci ∧ hkOwn y = ci ∧ (hkN y).name = "<init>" ∧ hkEV[t]? = some (1, p.toNat, k, v.toNat)) (hkGo pc ls st (t + 1) g) else none
  | _, _ => none
noncomputable def hkNew (kd pc : Nat) (n : Option Int) (ls st : List hkV) (t : Nat) (g : hkG) : hkO := match hkEV[t]? with
  | some (0, p, _, _) => hkChk (hkKd p = kd ∧ (∀ x ∈ n, x = (hkLn p : Int))) (hkGo pc ls ((2, (p : Int)) :: st) (t + 1) g)
  | _ => none
noncomputable def hkSt (i k pc : Nat) (ls : List hkV) (v : hkV) (st : List hkV) (t : Nat) (g : hkG) : hkO :=
  if i + k < ls.length then hkChk (hkPv ls i) (hkGo pc (if k = 0 then ls.set i v else (ls.set i v).set (i + 1) hkU) st t g) else none
def hkLd (tg i pc : Nat) (ls st : List hkV) (t : Nat) (g : hkG) : hkO := match ls[i]? with
  | some v => if v.1 = tg then hkGo pc ls (v :: st) t g else none
  | none => none
def hkLdA (i pc : Nat) (ls st : List hkV) (t : Nat) (g : hkG) : hkO := match ls[i]? with
  | some v => if v.1 = 2 ∨ v.1 = 4 then hkGo pc ls (v :: st) t g else none
  | none => none
noncomputable def hkAld (kd tg pc : Nat) (ls st : List hkV) (t : Nat) (g : hkG) : hkO := match st with
  | (0, i) :: (2, p) :: st => hkChk (hkJK p = kd ∧ 0 ≤ i ∧ i < (hkLn p.toNat : Int)) (hkGo pc ls ((tg, g p i) :: st) t g)
  | (0, i) :: (4, _) :: st => if kd = 100 then hkChk (0 ≤ i ∧ i < g (-2) 0) (hkGo pc ls ((0, g (-1) i) :: st) t g) else none
  | _ => none
noncomputable def hkAst (kd tg pc : Nat) (ls st : List hkV) (t : Nat) (g : hkG) : hkO := match st with
  | (tg2, x) :: (0, i) :: (2, p) :: st => if tg2 = tg then hkChk (hkJK p = kd ∧ (kd = 102 → x = 0 ∨ x = 1) ∧ 0 ≤ i ∧ i < (hkLn p.toNat : Int)) (hkGo pc ls st t (hkSet g p i x)) else none
  | _ => none
noncomputable def hkTgt (pc : Nat) (off : Int) (ls st : List hkV) (t : Nat) (g : hkG) : hkO := if 0 ≤ (pc : Int) + off then hkGo ((pc : Int) + off).toNat ls st t g else none
noncomputable def hkBin (f : Int → Int → Int) (pc : Nat) (ls st : List hkV) (t : Nat) (g : hkG) : hkO := match st with
  | (0, b) :: (0, a) :: st => hkGo pc ls ((0, f a b) :: st) t g
  | _ => none
noncomputable def hkBinL (f : Int → Int → Int) (pc : Nat) (ls st : List hkV) (t : Nat) (g : hkG) : hkO := match st with
  | (1, b) :: (1, a) :: st => hkGo pc ls ((1, f a b) :: st) t g
  | _ => none
noncomputable def hkUn (tg tg2 : Nat) (f : Int → Int) (pc : Nat) (ls st : List hkV) (t : Nat) (g : hkG) : hkO := match st with
  | (tg1, a) :: st => if tg1 = tg then hkGo pc ls ((tg2, f a) :: st) t g else none
  | _ => none
noncomputable def hkSw (x : Int) (dflt lo hi : Int) (offs : Array Int) : Option Int := if x < lo ∨ hi < x then some dflt else offs[(x - lo).toNat]?
noncomputable def hkPx (y : Nat) (i : Instr) (n : Nat) (c : hkC) : hkO := match c with
  | (pc, ls, st, t, g) => match i with
    | .iconst x => hkGo (pc + n) ls ((0, hkW x) :: st) t g
    | .bipush x => hkGo (pc + n) ls ((0, Int.bmod x 256) :: st) t g
    | .sipush x => hkGo (pc + n) ls ((0, Int.bmod x 65536) :: st) t g
    | .lconst x => hkGo (pc + n) ls ((1, ((x : Nat) : Int)) :: st) t g
    | .ldc idx => (match hkCst (hkOwn y) idx with
      | some v => hkGo (pc + n) ls ((0, v) :: st) t g
      | none => none)
    | .ldc_w idx => (match hkCst (hkOwn y) idx with
      | some v => hkGo (pc + n) ls ((0, v) :: st) t g
      | none => none)
    | .ldc2_w idx => (match hkCsl (hkOwn y) idx with
      | some v => hkGo (pc + n) ls ((1, v) :: st) t g
      | none => none)
    | .iload k => hkLd 0 k (pc + n) ls st t g
    | .iload_n k => hkLd 0 (k : Nat) (pc + n) ls st t g
    | .lload k => hkLd 1 k (pc + n) ls st t g
    | .lload_n k => hkLd 1 (k : Nat) (pc + n) ls st t g
    | .aload k => hkLdA k (pc + n) ls st t g
    | .aload_n k => hkLdA (k : Nat) (pc + n) ls st t g
    | .istore k => (match st with
      | (0, x) :: st => hkSt k 0 (pc + n) ls (0, x) st t g
      | _ => none)
    | .istore_n k => (match st with
      | (0, x) :: st => hkSt (k : Nat) 0 (pc + n) ls (0, x) st t g
      | _ => none)
    | .lstore k => (match st with
      | (1, x) :: st => hkSt k 1 (pc + n) ls (1, x) st t g
      | _ => none)
    | .lstore_n k => (match st with
      | (1, x) :: st => hkSt (k : Nat) 1 (pc + n) ls (1, x) st t g
      | _ => none)
    | .astore k => (match st with
      | (2, x) :: st => hkSt k 0 (pc + n) ls (2, x) st t g
      | _ => none)
    | .astore_n k => (match st with
      | (2, x) :: st => hkSt (k : Nat) 0 (pc + n) ls (2, x) st t g
      | _ => none)
    | .iinc k x => (match ls[k]? with
      | some (0, a) => hkSt k 0 (pc + n) ls (0, hkW (a + x)) st t g
      | _ => none)
    | .iadd => hkBin (fun a b => hkW (a + b)) (pc + n) ls st t g
    | .isub => hkBin (fun a b => hkW (a - b)) (pc + n) ls st t g
    | .imul => hkBin (fun a b => hkW (a * b)) (pc + n) ls st t g
    | .iand => hkBin hkAnd (pc + n) ls st t g
    | .ior => hkBin hkOr (pc + n) ls st t g
    | .ixor => hkBin hkXor (pc + n) ls st t g
    | .ishl => hkBin hkShl (pc + n) ls st t g
    | .ishr => hkBin hkShr (pc + n) ls st t g
    | .iushr => hkBin hkUsh (pc + n) ls st t g
    | .idiv => (match st with
      | (0, b) :: (0, a) :: st => hkChk (b ≠ 0) (hkGo (pc + n) ls ((0, hkW (a.tdiv b)) :: st) t g)
      | _ => none)
    | .irem => (match st with
      | (0, b) :: (0, a) :: st => hkChk (b ≠ 0) (hkGo (pc + n) ls ((0, a.tmod b) :: st) t g)
      | _ => none)
    | .ineg => hkUn 0 0 (fun a => hkW (-a)) (pc + n) ls st t g
    | .lneg => hkUn 1 1 (fun a => hkL (-a)) (pc + n) ls st t g
    | .i2l => hkUn 0 1 (fun a => a) (pc + n) ls st t g
    | .l2i => hkUn 1 0 (fun a => hkW a) (pc + n) ls st t g
    | .i2s => hkUn 0 0 (fun a => Int.bmod a 65536) (pc + n) ls st t g
    | .ladd => hkBinL (fun a b => hkL (a + b)) (pc + n) ls st t g
    | .lmul => hkBinL (fun a b => hkL (a * b)) (pc + n) ls st t g
    | .lrem => (match st with
      | (1, b) :: (1, a) :: st => hkChk (b ≠ 0) (hkGo (pc + n) ls ((1, a.tmod b) :: st) t g)
      | _ => none)
    | .lcmp => (match st with
      | (1, b) :: (1, a) :: st => hkGo (pc + n) ls ((0, hkCmp a b) :: st) t g
      | _ => none)
    | .ifCond cd off => (match st with
      | (0, a) :: st => if 0 ≤ (pc : Int) + off then hkBr (hkHolds cd a 0) (hkGo ((pc : Int) + off).toNat ls st t g) (hkGo (pc + n) ls st t g) else none
      | _ => none)
    | .if_icmp cd off => (match st with
      | (0, b) :: (0, a) :: st => if 0 ≤ (pc : Int) + off then hkBr (hkHolds cd a b) (hkGo ((pc : Int) + off).toNat ls st t g) (hkGo (pc + n) ls st t g) else none
      | _ => none)
    | .goto off => hkTgt pc off ls st t g
    | .tableswitch dflt lo hi offs => (match st with
      | (0, a) :: st => (match hkSw a dflt lo hi offs with
        | some off => hkTgt pc off ls st t g
        | none => none)
      | _ => none)
    | .dup => (match st with
      | v :: st => hkChk (hkP1 v) (hkGo (pc + n) ls (v :: v :: st) t g)
      | _ => none)
    | .dup2 => (match st with
      | v :: w :: st => hkChk (hkP1 v ∧ hkP1 w) (hkGo (pc + n) ls (v :: w :: v :: w :: st) t g)
      | _ => none)
    | .arraylength => (match st with
      | (2, p) :: st => hkChk (100 ≤ hkJK p ∧ hkJK p ≤ 104) (hkGo (pc + n) ls ((0, (hkLn p.toNat : Int)) :: st) t g)
      | (4, _) :: st => hkGo (pc + n) ls ((0, g (-2) 0) :: st) t g
      | _ => none)
    | .iaload => hkAld 100 0 (pc + n) ls st t g
    | .laload => hkAld 101 1 (pc + n) ls st t g
    | .baload => hkAld 102 0 (pc + n) ls st t g
    | .aaload => (match st with
      | (0, i) :: (2, p) :: st => hkChk (103 ≤ hkJK p ∧ hkJK p ≤ 104 ∧ 0 ≤ i ∧ i < (hkLn p.toNat : Int) ∧ hkAT p.toNat i.toNat ≤ t) (hkGo (pc + n) ls ((2, (hkRF p.toNat i.toNat : Int)) :: st) t g)
      | _ => none)
    | .iastore => hkAst 100 0 (pc + n) ls st t g
    | .lastore => hkAst 101 1 (pc + n) ls st t g
    | .bastore => hkAst 102 0 (pc + n) ls st t g
    | .aastore => (match st with
      | (2, v) :: (0, i) :: (2, p) :: st => hkChk (((hkJK p = 103 ∧ hkJK v = 7) ∨ (hkJK p = 104 ∧ hkJK v = 9)) ∧ 0 ≤ i ∧ i < (hkLn p.toNat : Int) ∧ hkEV[t]? = some (1, p.toNat, i.toNat, v.toNat)) (hkGo (pc + n) ls st (t + 1) g)
      | _ => none)
    | .new idx => (match hkCls (hkOwn y) idx with
      | some ci => if ci < 11 then hkNew ci (pc + n) none ls st t g else none
      | none => none)
    | .newarray ty => (match st with
      | (0, x) :: st => if hkAtC ty < 200 then hkNew (hkAtC ty) (pc + n) (some x) ls st t g else none
      | _ => none)
    | .anewarray idx => (match st, hkCls (hkOwn y) idx with
      | (0, x) :: st, some 7 => hkNew 103 (pc + n) (some x) ls st t g
      | (0, x) :: st, some 9 => hkNew 104 (pc + n) (some x) ls st t g
      | _, _ => none)
    | .getfield idx => hkGetf y idx (pc + n) ls st t g
    | .putfield idx => hkPutf y idx (pc + n) ls st t g
    | .invokevirtual idx => (match hkFind hkCT0 (hkOwn y) idx with
      | some y' => hkInvV y' (pc + n) ls st
      | none => none)
    | .invokespecial idx => (match hkFind hkCT1 (hkOwn y) idx with
      | some y' => hkInv y' (pc + n) ls st
      | none => match hkFind hkCT3 (hkOwn y) idx with
        | some y' => hkInv y' (pc + n) ls st
        | none => match hkFind hkCT4 (hkOwn y) idx, st with
          | some _, (2, _) :: st => if (st.map hkCat).sum ≤ 8 then hkGo (pc + n) ls st t g else none
          | _, _ => none)
    | .invokestatic idx => (match hkFind hkCT2 (hkOwn y) idx with
      | some y' => hkInv y' (pc + n) ls st
      | none => match hkFind hkCT5 (hkOwn y) idx, st with
        | some _, (0, k) :: (0, j) :: (2, q) :: (0, i) :: (2, p) :: st => hkChk (hkJK p = 100 ∧ hkJK q = 100 ∧ 0 ≤ i ∧ 0 ≤ j ∧ 0 ≤ k ∧ i + k ≤ (hkLn p.toNat : Int) ∧ j + k ≤ (hkLn q.toNat : Int)) (if (st.map hkCat).sum ≤ 8 then hkGo (pc + n) ls st t (hkCpy g p i q j k) else none)
        | _, _ => none)
    | .ireturn => (match st with
      | [(0, x)] => if hkRt y = 0 then some (.inr (.inr (some (0, x)))) else if hkRt y = 3 then hkChk (x = 0 ∨ x = 1) (some (.inr (.inr (some (0, x))))) else none
      | _ => none)
    | .lreturn => (match st with
      | [(1, x)] => if hkRt y = 1 then some (.inr (.inr (some (1, x)))) else none
      | _ => none)
    | .return_ => (match st with
      | [] => if hkRt y = 9 then some (.inr (.inr none)) else none
      | _ => none)
    | _ => none
noncomputable def hkRun : Nat → Nat → Nat → hkC → Option (Option hkV × Nat × hkG)
  | 0, _, _, _ => none
  | n + 1, d, y, c => match hkFetch y c.1 with
    | none => none
    | some (i, len) => match hkPx y i len c with
      | none => none
      | some (.inl c') => hkRun n d y c'
      | some (.inr (.inl (y', as, pc, ls, st))) => (match d with
        | 0 => none
        | d + 1 => match hkRun n d y' (0, hkEnt (hkX y') as, [], c.2.2.2.1, c.2.2.2.2) with
          | none => none
          | some (r, t, g) => hkRun n (d + 1) y (pc, ls, hkPush r st, t, g))
      | some (.inr (.inr r)) => some (r, c.2.2.2.1, c.2.2.2.2)
end
section
/-! facts of the tables, of wrapped numbers -/
def hkEvChk (t : Nat) : Bool := match hkEV[t]? with
  | some (0, p, _, _) => p == hkNX t && hkNX (t + 1) == hkNX t + 1 && hkNS (t + 1) == hkNS t + hkLn p
  | some (1, p, k, v) => hkAT p k == t + 1 && (hkRF p k == v && (decide (p < hkNX t) && (decide (v < hkNX t) && (decide (k < hkLn p) && (hkNX (t + 1) == hkNX t && hkNS (t + 1) == hkNS t)))))
  | _ => false
set_option maxRecDepth 100000 in
theorem hkEvAll : ∀ t, t < 190 → hkEvChk t = true := by decide +kernel
theorem hkEvLen : hkEV.length = 190 := by decide +kernel
theorem hkEv_lt {t : Nat} {e : Nat × Nat × Nat × Nat} (h : hkEV[t]? = some e) : t < 190 := by
  have := (List.getElem?_eq_some_iff.mp h).1
  rw [hkEvLen] at this; exact this
theorem hkEv0 {t p a b : Nat} (h : hkEV[t]? = some (0, p, a, b)) : p = hkNX t ∧ hkNX (t + 1) = hkNX t + 1 ∧ hkNS (t + 1) = hkNS t + hkLn p := by
  have h1 := hkEvAll t (hkEv_lt h)
  unfold hkEvChk at h1
  rw [h] at h1
  simp only [Bool.and_eq_true, beq_iff_eq] at h1
  exact ⟨h1.1.1, h1.1.2, h1.2⟩
theorem hkEv1 {t p k v : Nat} (h : hkEV[t]? = some (1, p, k, v)) : hkAT p k = t + 1 ∧ hkRF p k = v ∧ p < hkNX t ∧ v < hkNX t ∧ k < hkLn p ∧ hkNX (t + 1) = hkNX t ∧ hkNS (t + 1) = hkNS t := by
  have h1 := hkEvAll t (hkEv_lt h)
  unfold hkEvChk at h1
  rw [h] at h1
  simp only [Bool.and_eq_true, beq_iff_eq, decide_eq_true_eq] at h1
  exact h1
theorem hkNX_mono {t u : Nat} (h : t ≤ u) : hkNX t ≤ hkNX u := by
  unfold hkNX
  exact ((List.take_sublist_take_left h).filter _).length_le
theorem hkNX_le (t : Nat) : hkNX t ≤ 91 := by
  unfold hkNX
  calc _ ≤ (hkEV.filter (fun e => e.1 == 0)).length := ((List.take_sublist t hkEV).filter _).length_le
    _ = 91 := by decide +kernel
theorem hkNS_mono {t u : Nat} (h : t ≤ u) : hkNS t ≤ hkNS u := by
  unfold hkNS
  obtain ⟨k, hk⟩ := Nat.le.dest (hkNX_mono h)
  rw [← hk, List.take_add, List.map_append, List.sum_append]
  omega
/-- an item of a place that became a reference by the event ahead of t -/
theorem hkAT_ev {p k t : Nat} (h : hkAT p k = t + 1) (ht : t < 9998) : ∃ v, hkEV[t]? = some (1, p, k, v) ∧ hkRF p k = v := by
  unfold hkAT at h
  cases hf : hkEV.findIdx? (fun e => e.1 == 1 && (e.2.1 == p && e.2.2.1 == k)) with
  | none => rw [hf] at h; simp at h; omega
  | some i =>
    rw [hf] at h
    have hi : i = t := by simpa using h
    subst hi
    obtain ⟨hl, h1, h2⟩ := List.findIdx?_eq_some_iff_getElem.mp hf
    simp only [Bool.and_eq_true, beq_iff_eq] at h1
    obtain ⟨e1, e2, e3⟩ := h1
    have he : hkEV[i]? = some (1, p, k, (hkEV[i]).2.2.2) := by
      rw [List.getElem?_eq_getElem hl, ← e1, ← e2, ← e3]
    exact ⟨_, he, (hkEv1 he).2.1⟩
theorem hkAT_pos (p k : Nat) : 1 ≤ hkAT p k := by
  unfold hkAT
  split <;> omega
theorem hkRF_lt {p k t : Nat} (h : hkAT p k ≤ t) (ht : t ≤ 190) : hkRF p k < hkNX t ∧ p < hkNX t ∧ k < hkLn p := by
  obtain ⟨u, hu⟩ : ∃ u, hkAT p k = u + 1 := ⟨hkAT p k - 1, by have := hkAT_pos p k; omega⟩
  obtain ⟨v, h1, h2⟩ := hkAT_ev hu (by omega)
  obtain ⟨-, -, h3, h4, h5, -⟩ := hkEv1 h1
  have := hkNX_mono (t := u) (u := t) (by omega)
  exact ⟨by omega, by omega, h5⟩
/-- a new place: no reference is put by that event -/
theorem hkAT_new {t q a b p k : Nat} (h : hkEV[t]? = some (0, q, a, b)) : hkAT p k ≤ t + 1 ↔ hkAT p k ≤ t := by
  constructor
  · intro h1
    rcases Nat.lt_or_ge t (hkAT p k) with h2 | h2
    · obtain ⟨v, h3, -⟩ := hkAT_ev (p := p) (k := k) (t := t) (by omega) (by have := hkEv_lt h; omega)
      rw [h] at h3; simp at h3
    · exact h2
  · omega
theorem hkAT_put {t q j v p k : Nat} (h : hkEV[t]? = some (1, q, j, v)) : hkAT p k ≤ t + 1 ↔ (hkAT p k ≤ t ∨ (p = q ∧ k = j)) := by
  constructor
  · intro h1
    rcases Nat.lt_or_ge t (hkAT p k) with h2 | h2
    · obtain ⟨v, h3, -⟩ := hkAT_ev (p := p) (k := k) (t := t) (by omega) (by have := hkEv_lt h; omega)
      rw [h] at h3
      simp only [Option.some.injEq, Prod.mk.injEq] at h3
      exact Or.inr ⟨h3.2.1.symm, h3.2.2.1.symm⟩
    · exact Or.inl h2
  · rintro (h1 | ⟨rfl, rfl⟩)
    · omega
    · rw [(hkEv1 h).1]; exact Nat.le_refl _
theorem hkPlLen : hkPl.length = 91 := by decide +kernel
def hkKinds : List Nat := [0, 1, 2, 3, 4, 5, 6, 7, 8, 9, 10, 100, 101, 102, 103, 104]
theorem hkKd_in : ∀ p, p < 91 → hkKd p ∈ hkKinds := by decide +kernel
theorem hkKd_ln : ∀ p, p < 91 → hkKd p < 11 → hkLn p = (hkFTs.getD (hkKd p) []).length := by decide +kernel
/-! numbers -/
def hkRng (x : Int) : Prop := -2147483648 ≤ x ∧ x ≤ 2147483647
def hkRngL (x : Int) : Prop := -9223372036854775808 ≤ x ∧ x ≤ 9223372036854775807
theorem hkW_rng (x : Int) : hkRng (hkW x) := by
  unfold hkRng hkW
  have h1 := Int.le_bmod (x := x) (m := 4294967296) (by decide)
  have h2 := Int.bmod_lt (x := x) (m := 4294967296) (by decide)
  omega
theorem hkL_rng (x : Int) : hkRngL (hkL x) := by
  unfold hkRngL hkL
  have h1 := Int.le_bmod (x := x) (m := 18446744073709551616) (by decide)
  have h2 := Int.bmod_lt (x := x) (m := 18446744073709551616) (by decide)
  omega
theorem hkRng_i (x : Int32) : hkRng x.toInt := by
  have h1 := x.le_toInt
  have h2 := x.toInt_lt
  unfold hkRng
  omega
theorem hkRng_l (x : Int64) : hkRngL x.toInt := by
  have h1 := x.le_toInt
  have h2 := x.toInt_lt
  unfold hkRngL
  omega
theorem hkW_id {x : Int} (h : hkRng x) : hkW x = x := by
  unfold hkW hkRng at *
  exact Int.bmod_eq_of_le (by omega) (by omega)
theorem hkL_id {x : Int} (h : hkRngL x) : hkL x = x := by
  unfold hkL hkRngL at *
  exact Int.bmod_eq_of_le (by omega) (by omega)
theorem hkI_toInt {x : Int} (h : hkRng x) : (Int32.ofInt x).toInt = x := by
  rw [Int32.toInt_ofInt]; exact hkW_id h
theorem hkJ_toInt {x : Int} (h : hkRngL x) : (Int64.ofInt x).toInt = x := by
  rw [Int64.toInt_ofInt]; exact hkL_id h
theorem hkI_w (x : Int) : Int32.ofInt (hkW x) = Int32.ofInt x := by
  apply Int32.toInt_inj.mp
  rw [hkI_toInt (hkW_rng x), Int32.toInt_ofInt]; rfl
theorem hkJ_l (x : Int) : Int64.ofInt (hkL x) = Int64.ofInt x := by
  apply Int64.toInt_inj.mp
  rw [hkJ_toInt (hkL_rng x), Int64.toInt_ofInt]; rfl
theorem hkI_of (x : Int32) : Int32.ofInt x.toInt = x := Int32.ofInt_toInt x
theorem hkI_inj {x y : Int} (hx : hkRng x) (hy : hkRng y) : Int32.ofInt x = Int32.ofInt y ↔ x = y := by
  rw [← Int32.toInt_inj, hkI_toInt hx, hkI_toInt hy]
theorem hkI_le {x y : Int} (hx : hkRng x) (hy : hkRng y) : Int32.ofInt x ≤ Int32.ofInt y ↔ x ≤ y := by
  rw [Int32.le_iff_toInt_le, hkI_toInt hx, hkI_toInt hy]
theorem hkI_lt {x y : Int} (hx : hkRng x) (hy : hkRng y) : Int32.ofInt x < Int32.ofInt y ↔ x < y := by
  rw [Int32.lt_iff_toInt_lt, hkI_toInt hx, hkI_toInt hy]
theorem hkJ_inj {x y : Int} (hx : hkRngL x) (hy : hkRngL y) : Int64.ofInt x = Int64.ofInt y ↔ x = y := by
  rw [← Int64.toInt_inj, hkJ_toInt hx, hkJ_toInt hy]
theorem hkJ_lt {x y : Int} (hx : hkRngL x) (hy : hkRngL y) : Int64.ofInt x < Int64.ofInt y ↔ x < y := by
  rw [Int64.lt_iff_toInt_lt, hkJ_toInt hx, hkJ_toInt hy]
theorem hkI_cl {x : Int} (h : hkRng x) : (Int32.ofInt x).toNatClampNeg = x.toNat := by
  unfold Int32.toNatClampNeg
  rw [hkI_toInt h]
theorem hkRng0 : hkRng 0 := by unfold hkRng; omega
theorem hkI_0 : Int32.ofInt 0 = 0 := rfl
theorem hkI_in {x : Int} {n : Nat} (h : hkRng x) (h0 : 0 ≤ x) (h1 : x < (n : Int)) : vp_in (Int32.ofInt x) n := by
  rw [vp_in_iff, hkI_toInt h]; exact ⟨h0, h1⟩
theorem hkI_div {a b : Int} (ha : hkRng a) (hb : hkRng b) : Int32.ofInt (hkW (a.tdiv b)) = Int32.ofInt a / Int32.ofInt b := by
  rw [hkI_w]
  apply Int32.toInt_inj.mp
  rw [Int32.toInt_div, hkI_toInt ha, hkI_toInt hb, Int32.toInt_ofInt]
theorem hkI_rem {a b : Int} (ha : hkRng a) (hb : hkRng b) : Int32.ofInt (a.tmod b) = Int32.ofInt a - Int32.ofInt a / Int32.ofInt b * Int32.ofInt b := by
  rw [← hkI_div ha hb, hkI_w, ← Int32.ofInt_mul, ← Int32.ofInt_sub, Int.tmod_def]
  rw [Int.mul_comm b]
theorem hkJ_rem {a b : Int} (ha : hkRngL a) (hb : hkRngL b) : Int64.ofInt (a.tmod b) = Int64.ofInt a - Int64.ofInt a / Int64.ofInt b * Int64.ofInt b := by
  have h1 : Int64.ofInt (a.tdiv b) = Int64.ofInt a / Int64.ofInt b := by
    apply Int64.toInt_inj.mp
    rw [Int64.toInt_div, hkJ_toInt ha, hkJ_toInt hb, Int64.toInt_ofInt]
  rw [← h1, ← Int64.ofInt_mul, ← Int64.ofInt_sub, Int.tmod_def, Int.mul_comm b]
theorem hkRem_rng {a b : Int} (ha : hkRng a) : hkRng (a.tmod b) := by
  unfold hkRng at *
  have h := Int.natAbs_tmod a b
  rcases Int.natAbs_eq (a.tmod b) with e | e <;> rw [e, h] <;>
  · have : a.natAbs % b.natAbs ≤ a.natAbs := Nat.mod_le _ _
    by_cases hz : 0 ≤ a.tmod b
    all_goals
      have h3 : 0 ≤ a → 0 ≤ a.tmod b := fun h => Int.tmod_nonneg b h
      have h4 : a ≤ 0 → a.tmod b ≤ 0 := fun h => by
        have := Int.tmod_nonneg (a := -a) b (by omega)
        rw [Int.neg_tmod] at this; omega
      omega
theorem hkRemL_rng {a b : Int} (ha : hkRngL a) : hkRngL (a.tmod b) := by
  unfold hkRngL at *
  have h := Int.natAbs_tmod a b
  rcases Int.natAbs_eq (a.tmod b) with e | e <;> rw [e, h] <;>
  · have : a.natAbs % b.natAbs ≤ a.natAbs := Nat.mod_le _ _
    by_cases hz : 0 ≤ a.tmod b
    all_goals
      have h3 : 0 ≤ a → 0 ≤ a.tmod b := fun h => Int.tmod_nonneg b h
      have h4 : a ≤ 0 → a.tmod b ≤ 0 := fun h => by
        have := Int.tmod_nonneg (a := -a) b (by omega)
        rw [Int.neg_tmod] at this; omega
      omega
theorem hkBm16_rng (a : Int) : hkRng (Int.bmod a 65536) := by
  have h1 := Int.le_bmod (x := a) (m := 65536) (by decide)
  have h2 := Int.bmod_lt (x := a) (m := 65536) (by decide)
  unfold hkRng; omega
theorem hkI_i2s {a : Int} (ha : hkRng a) : (Int32.ofInt a).toInt16.toInt32 = Int32.ofInt (Int.bmod a 65536) := by
  apply Int32.toInt_inj.mp
  rw [Int32.toInt16_ofInt, Int16.toInt_toInt32, Int16.toInt_ofInt, hkI_toInt (hkBm16_rng a)]
theorem hkBm8_rng (a : Int) : hkRng (Int.bmod a 256) := by
  have h1 := Int.le_bmod (x := a) (m := 256) (by decide)
  have h2 := Int.bmod_lt (x := a) (m := 256) (by decide)
  unfold hkRng; omega
theorem hkI_bi (a : Int) : (Int8.ofInt a).toInt32 = Int32.ofInt (Int.bmod a 256) := by
  apply Int32.toInt_inj.mp
  rw [Int8.toInt_toInt32, Int8.toInt_ofInt, hkI_toInt (hkBm8_rng a)]
theorem hkI_si (a : Int) : (Int16.ofInt a).toInt32 = Int32.ofInt (Int.bmod a 65536) := by
  apply Int32.toInt_inj.mp
  rw [Int16.toInt_toInt32, Int16.toInt_ofInt, hkI_toInt (hkBm16_rng a)]
theorem hkI_i2l {a : Int} (ha : hkRng a) : (Int32.ofInt a).toInt64 = Int64.ofInt a := by
  apply Int64.toInt_inj.mp
  rw [Int32.toInt_toInt64, hkI_toInt ha, hkJ_toInt]
  unfold hkRng at ha; unfold hkRngL; omega
theorem hkI_l2i (a : Int) : (Int64.ofInt a).toInt32 = Int32.ofInt (hkW a) := by
  rw [Int64.toInt32_ofInt, hkI_w]
end
section
/-! the world of a pure state; what holds at a point of a frame -/
def hkVal (adr : Nat → Nat) (b : Nat) (v : hkV) : Value := match v.1 with
  | 0 => .int (Int32.ofInt v.2)
  | 1 => .long (Int64.ofInt v.2)
  | 2 => .ref (adr v.2.toNat)
  | _ => .ref b
def hkFv (adr : Nat → Nat) (t : Nat) (g : hkG) (p k : Nat) : Value := if hkFT (hkKd p) k = 2 then (if hkAT p k ≤ t then .ref (adr (hkRF p k)) else .null) else .int (Int32.ofInt (g p k))
def hkFs (adr : Nat → Nat) (t : Nat) (g : hkG) (p : Nat) : List Value := (List.range (hkLn p)).map (hkFv adr t g p)
def hkCell (adr : Nat → Nat) (cA : Nat → ClassId) (t : Nat) (g : hkG) (p : Nat) : va_E :=
  if hkKd p < 11 then .inr (hkKd p, hkFs adr t g p)
  else if hkKd p = 101 then .inl (cA p, hkLn p, .inr (.inl (fun j => Int64.ofInt (g p j))))
  else if hkKd p < 103 then .inl (cA p, hkLn p, .inl (fun j => Int32.ofInt (g p j)))
  else .inl (cA p, hkLn p, .inr (.inr (.inr (.inr (fun j => if hkAT p j ≤ t then some (adr (hkRF p j)) else none)))))
def hkWs (adr : Nat → Nat) (cA : Nat → ClassId) (t : Nat) (g : hkG) : va_W := (List.range (hkNX t)).map (fun p => (adr p, hkCell adr cA t g p))
def hkAty (kd : Nat) : FieldType := match kd with
  | 100 => .int
  | 101 => .long
  | 102 => .boolean
  | 103 => .object "HookBoxes$Sum"
  | _ => .object "HookBoxes$Sheet"
def hkOK (fl : Prop) (t : Nat) (v : hkV) : Prop := (v.1 = 0 ∧ hkRng v.2) ∨ (v.1 = 1 ∧ hkRngL v.2) ∨ (v.1 = 2 ∧ 0 ≤ v.2 ∧ v.2.toNat < hkNX t) ∨ (v.1 = 4 ∧ fl)
def hkGOK (t : Nat) (g : hkG) : Prop := (∀ p k : Nat, p < hkNX t → (if hkKd p = 101 then hkRngL (g p k) else hkRng (g p k))) ∧ ∀ p k : Nat, hkNX t ≤ p → g p k = 0
def hkLv (adr : Nat → Nat) (b : Nat) (ls : List hkV) : List (Nat × Value) := (ls.zipIdx).filterMap (fun q => if q.1.1 = 9 then none else some (q.2, hkVal adr b q.1))
def hkGt : List Cond := lw_tbl.filter goodWord
theorem hkGt_of {w : Cond} (h : w ∈ lw_tbl) (hg : goodWord w = true) : w ∈ hkGt := List.mem_filter.mpr ⟨h, hg⟩
theorem hkGt_i {w : Cond} {i : Nat} (h : lw_tbl[i]? = some w) (hg : goodWord w = true) : w ∈ hkGt := hkGt_of (List.mem_of_getElem? h) hg
def hkNst (s : State) : Prop := (∀ q ∈ hkCT3, va_Nw (.methodLinkNest (hkOwnS q.1) q.2.1 (hkN q.2.2.1) "HookBoxes") s) ∧ va_AO "HookBoxes$Sum" s ∧ va_AO "HookBoxes$Sheet" s
theorem hkWs_get {adr : Nat → Nat} {cA : Nat → ClassId} {t p : Nat} {g : hkG} (h : p < hkNX t) : (hkWs adr cA t g)[p]? = some (adr p, hkCell adr cA t g p) := by
  unfold hkWs; simp [h]
theorem hkWs_len {adr : Nat → Nat} {cA : Nat → ClassId} {t : Nat} {g : hkG} : (hkWs adr cA t g).length = hkNX t := by
  unfold hkWs; simp
theorem hkWs_set {adr : Nat → Nat} {cA : Nat → ClassId} {t t' p : Nat} {g g' : hkG} {x : va_E} (hp : p < hkNX t) (ht : hkNX t' = hkNX t) (h1 : hkCell adr cA t' g' p = x) (h2 : ∀ q, q < hkNX t → q ≠ p → hkCell adr cA t' g' q = hkCell adr cA t g q) : (hkWs adr cA t g).set p (adr p, x) = hkWs adr cA t' g' := by
  apply List.ext_getElem?
  intro i
  rw [List.getElem?_set]
  by_cases hi : i < hkNX t
  · by_cases e : p = i
    · subst e
      rw [if_pos rfl, if_pos (by rw [hkWs_len]; exact hp), hkWs_get (by omega), h1]
    · rw [if_neg e, hkWs_get hi, hkWs_get (by omega), h2 i hi (fun h => e h.symm)]
  · have a1 : (hkWs adr cA t' g')[i]? = none := List.getElem?_eq_none (by rw [hkWs_len]; omega)
    have a2 : (hkWs adr cA t g)[i]? = none := List.getElem?_eq_none (by rw [hkWs_len]; omega)
    rw [a1, a2]
    by_cases e : p = i
    · omega
    · rw [if_neg e]
theorem hkWs_push {adr adr' : Nat → Nat} {cA cA' : Nat → ClassId} {t t' : Nat} {g : hkG} {q : Nat} {x : va_E} (ht : hkNX t' = hkNX t + 1) (ha : ∀ p, p < hkNX t → adr' p = adr p) (hq : adr' (hkNX t) = q) (h1 : hkCell adr' cA' t' g (hkNX t) = x) (h2 : ∀ p, p < hkNX t → hkCell adr' cA' t' g p = hkCell adr cA t g p) : hkWs adr cA t g ++ [(q, x)] = hkWs adr' cA' t' g := by
  apply List.ext_getElem?
  intro i
  rcases Nat.lt_trichotomy i (hkNX t) with h | h | h
  · rw [List.getElem?_append_left (by rw [hkWs_len]; exact h), hkWs_get h, hkWs_get (by omega), ha i h, h2 i h]
  · rw [List.getElem?_append_right (by rw [hkWs_len]; omega), hkWs_len, hkWs_get (by omega), h, hq, h1]
    simp
  · rw [List.getElem?_eq_none (by rw [List.length_append, hkWs_len]; simp; omega), List.getElem?_eq_none (by rw [hkWs_len]; omega)]
theorem hkLv_mem {adr : Nat → Nat} {b : Nat} {ls : List hkV} {q : Nat × Value} : q ∈ hkLv adr b ls ↔ ∃ v, ls[q.1]? = some v ∧ v.1 ≠ 9 ∧ q.2 = hkVal adr b v := by
  unfold hkLv
  simp only [List.mem_filterMap]
  constructor
  · rintro ⟨⟨v, i⟩, hm, he⟩
    have hm' := List.mem_zipIdx_iff_getElem?.mp hm
    by_cases h9 : v.1 = 9
    · simp [h9] at he
    · simp only [h9, if_false, Option.some.injEq] at he
      subst he
      exact ⟨v, hm', h9, rfl⟩
  · rintro ⟨v, h1, h2, h3⟩
    refine ⟨(v, q.1), List.mem_zipIdx_iff_getElem?.mpr h1, ?_⟩
    simp only [h2, if_false, Option.some.injEq]
    rw [← h3]
theorem hkLv_get {adr : Nat → Nat} {b n : Nat} {ls : List hkV} {lsA : Array Slot} (h : lv_has lsA n (hkLv adr b ls)) {i : Nat} {v : hkV} (hi : ls[i]? = some v) (h9 : v.1 ≠ 9) : lsA[i]? = some (.val (hkVal adr b v)) := h.2.2 (i, hkVal adr b v) (hkLv_mem.mpr ⟨v, hi, h9, rfl⟩)
theorem hkCat_val (adr : Nat → Nat) (b : Nat) (v : hkV) : (hkVal adr b v).category = hkCat v := by
  unfold hkVal hkCat
  split <;> rename_i h <;> first | (rw [h]; rfl) | skip
  split
  · contradiction
  · rfl
/-- a store of one word -/
theorem hkLv_st {adr : Nat → Nat} {b n i : Nat} {ls : List hkV} {lsA : Array Slot} {v : hkV} (h : lv_has lsA n ((i, hkVal adr b v) :: (hkLv adr b ls).filter (fun q => !(q.1 == i) && !(q.1 + 1 == i && q.2.category == 2)))) (hp : hkPv ls i) (hi : i < ls.length) : lv_has lsA n (hkLv adr b (ls.set i v)) := by
  refine ⟨h.1, h.2.1, fun q hq => ?_⟩
  apply h.2.2 q
  obtain ⟨w, h1, h2, h3⟩ := hkLv_mem.mp hq
  rw [List.getElem?_set] at h1
  by_cases e : i = q.1
  · rw [if_pos e, if_pos (by omega)] at h1
    cases h1
    rw [show q = (i, hkVal adr b v) from by rw [e, ← h3]]
    exact List.mem_cons_self
  · rw [if_neg e] at h1
    refine List.mem_cons_of_mem _ (List.mem_filter.mpr ⟨hkLv_mem.mpr ⟨w, h1, h2, h3⟩, ?_⟩)
    have e1 : (q.1 == i) = false := by simp; exact fun h => e h.symm
    rw [e1]
    simp only [Bool.not_false, Bool.true_and, Bool.not_eq_true', Bool.and_eq_false_iff, beq_eq_false_iff_ne]
    by_cases e2 : q.1 + 1 = i
    · refine Or.inr ?_
      rw [h3, hkCat_val]
      subst e2
      unfold hkPv hkP1 at hp
      simp only [List.getD_eq_getElem?_getD, h1, Option.getD_some] at hp
      unfold hkCat
      rw [if_neg hp]
      decide
    · exact Or.inl e2
theorem hkLv_st2 {adr : Nat → Nat} {b n i : Nat} {ls : List hkV} {lsA : Array Slot} {v : hkV} (h : lv_has lsA n ((i, hkVal adr b v) :: (hkLv adr b ls).filter (fun q => !(q.1 == i) && (!(q.1 == i + 1) && !(q.1 + 1 == i && q.2.category == 2))))) (hp : hkPv ls i) (hi : i + 1 < ls.length) : lv_has lsA n (hkLv adr b ((ls.set i v).set (i + 1) hkU)) := by
  refine ⟨h.1, h.2.1, fun q hq => ?_⟩
  apply h.2.2 q
  obtain ⟨w, h1, h2, h3⟩ := hkLv_mem.mp hq
  rw [List.getElem?_set] at h1
  by_cases e' : i + 1 = q.1
  · rw [if_pos e', if_pos (by rw [List.length_set]; omega)] at h1
    cases h1
    exact absurd rfl h2
  rw [if_neg e', List.getElem?_set] at h1
  by_cases e : i = q.1
  · rw [if_pos e, if_pos (by omega)] at h1
    cases h1
    rw [show q = (i, hkVal adr b v) from by rw [e, ← h3]]
    exact List.mem_cons_self
  · rw [if_neg e] at h1
    refine List.mem_cons_of_mem _ (List.mem_filter.mpr ⟨hkLv_mem.mpr ⟨w, h1, h2, h3⟩, ?_⟩)
    have e1 : (q.1 == i) = false := by simp; exact fun h => e h.symm
    have e3 : (q.1 == i + 1) = false := by simp; exact fun h => e' h.symm
    rw [e1, e3]
    simp only [Bool.not_false, Bool.true_and, Bool.not_eq_true', Bool.and_eq_false_iff, beq_eq_false_iff_ne]
    by_cases e2 : q.1 + 1 = i
    · refine Or.inr ?_
      rw [h3, hkCat_val]
      subst e2
      unfold hkPv hkP1 at hp
      simp only [List.getD_eq_getElem?_getD, h1, Option.getD_some] at hp
      unfold hkCat
      rw [if_neg hp]
      decide
    · exact Or.inl e2
theorem hkVal_congr {adr adr' : Nat → Nat} {b t : Nat} {fl : Prop} {v : hkV} (h : hkOK fl t v ∨ v.1 = 9) (ha : ∀ p, p < hkNX t → adr' p = adr p) : hkVal adr' b v = hkVal adr b v := by
  unfold hkVal
  split <;> first | rfl | skip
  rename_i h2
  rw [ha]
  rcases h with (⟨h1, -⟩ | ⟨h1, -⟩ | ⟨-, -, h1⟩ | ⟨h1, -⟩) | h1 <;> first | exact h1 | (rw [h2] at h1; cases h1)
theorem hkLv_congr {adr adr' : Nat → Nat} {b t n : Nat} {fl : Prop} {ls : List hkV} {lsA : Array Slot} (hl : lv_has lsA n (hkLv adr b ls)) (h : ∀ v ∈ ls, hkOK fl t v ∨ v.1 = 9) (ha : ∀ p, p < hkNX t → adr' p = adr p) : lv_has lsA n (hkLv adr' b ls) := by
  refine ⟨hl.1, hl.2.1, fun q hq => hl.2.2 q ?_⟩
  obtain ⟨w, h1, h2, h3⟩ := hkLv_mem.mp hq
  exact hkLv_mem.mpr ⟨w, h1, h2, by rw [h3]; exact hkVal_congr (h w (List.mem_of_getElem? h1)) ha⟩
theorem hkOK_mono {fl : Prop} {t t' : Nat} {v : hkV} (h : hkOK fl t v) (ht : t ≤ t') : hkOK fl t' v := by
  rcases h with h | h | ⟨h1, h2, h3⟩ | h
  · exact Or.inl h
  · exact Or.inr (Or.inl h)
  · exact Or.inr (Or.inr (Or.inl ⟨h1, h2, Nat.lt_of_lt_of_le h3 (hkNX_mono ht)⟩))
  · exact Or.inr (Or.inr (Or.inr h))
/-- the fixed facts of a frame -/
def hkFr (p : Program) (R : Room) (s : State) (m : MethodId) (args : Array Value) (meth : Method) (c : Code) (y : Nat) (fl : Prop) (b : Nat) (A : Nat → Prop) : Prop :=
  p.tables.exec = Jvm.exec ∧ c.code = hkB y ∧ meth.sig.returnType = hkR y ∧ c.maxLocals = hkX y ∧ s.vm.findClass (hkOwnS (hkOwn y)) = some m.cls ∧ (∀ w ∈ hkGt, w.before args s = true) ∧ ((hkN y).name = "<init>" → meth.name = "<init>") ∧ meth.locks = false ∧ hkNst s ∧ (∀ q, s.heap.size ≤ q → A q) ∧ 1 ≤ R.frames ∧ 64 ≤ R.locals ∧
  (fl → ∃ (L : Nat) (xs : Nat → Int32), va_X b L xs s s.heap ∧ b < s.heap.size ∧ ¬ A b)
/-- what holds at a point -/
def hkCx (dC : Nat → ClassId) (dI : Nat → Nat → Nat) (s : State) (y : Nat) (fl : Prop) (b : Nat) (A : Nat → Prop) (adr0 : Nat → Nat) (t0 : Nat) (c : hkC) (H : Heap) (locs : List Loc) (adr : Nat → Nat) (cA : Nat → ClassId) (tys : List (ClassId × FieldType)) (lsA : Array Slot) : Prop :=
  va_P (dC, dI) hkCl (hkWs adr cA c.2.2.2.1 c.2.2.2.2) H ∧ va_K (dC, dI) hkCl tys s ∧ va_D A (hkWs adr cA c.2.2.2.1 c.2.2.2.2) ∧ va_S A s.heap H locs ∧
  (∀ p : Nat, p < hkNX c.2.2.2.1 → 100 ≤ hkKd p → ∃ k0 : Nat, tys[k0]? = some (cA p, hkAty (hkKd p))) ∧ hkGOK c.2.2.2.1 c.2.2.2.2 ∧ lv_has lsA (hkX y) (hkLv adr b c.2.1) ∧ c.2.1.length = hkX y ∧
  (∀ v ∈ c.2.1, hkOK fl c.2.2.2.1 v ∨ v.1 = 9) ∧ (∀ v ∈ c.2.2.1, hkOK fl c.2.2.2.1 v) ∧ t0 ≤ c.2.2.2.1 ∧ c.2.2.2.1 ≤ 190 ∧ (∀ q, q < hkNX t0 → adr q = adr0 q) ∧
  (fl → ∀ (L : Nat) (xs : Nat → Int32), va_X b L xs s s.heap → (c.2.2.2.2 (-2) 0 = (L : Int) ∧ (L : Int) < 2147483648 ∧ ∀ j : Nat, j < L → c.2.2.2.2 (-1) (j : Int) = (xs j).toInt))
end
section
/-! the tables of classes, links and constants: what they bring (by program: wip/whole/gen_cls.py) -/
def hkTT : Nat → u_T := fun ci => match ci with
  | 0 => hkT0
  | 1 => hkT1
  | 2 => hkT2
  | 3 => hkT3
  | 4 => hkT4
  | 5 => hkT5
  | 6 => hkT6
  | 7 => hkT7
  | 8 => hkT8
  | 9 => hkT9
  | _ => hkT10
def hkYY : Nat → (Nat → FieldType) := fun ci => match ci with
  | 0 => hkY0
  | 1 => hkY1
  | 2 => hkY2
  | 3 => hkY3
  | 4 => hkY4
  | 5 => hkY5
  | 6 => hkY6
  | 7 => hkY7
  | 8 => hkY8
  | 9 => hkY9
  | _ => hkY10
def hkNF (ci : Nat) : Nat := (hkFTs.getD ci []).length
theorem hkCl_ok {ci : Nat} (h : ci < 11) : hkCl[ci]? = some (hkOwnS ci, hkTT ci, hkNF ci) := by
  match ci, h with
  | 0, _ => rfl
  | 1, _ => rfl
  | 2, _ => rfl
  | 3, _ => rfl
  | 4, _ => rfl
  | 5, _ => rfl
  | 6, _ => rfl
  | 7, _ => rfl
  | 8, _ => rfl
  | 9, _ => rfl
  | 10, _ => rfl
theorem hkYok_ok {ci : Nat} (h : ci < 11) : ∀ k, k < hkNF ci → parseFieldDescriptor (hkTT ci k).2.2.1 = some (hkYY ci k) := by
  match ci, h with
  | 0, _ => exact hkYok0
  | 1, _ => exact hkYok1
  | 2, _ => exact hkYok2
  | 3, _ => exact hkYok3
  | 4, _ => exact hkYok4
  | 5, _ => exact hkYok5
  | 6, _ => exact hkYok6
  | 7, _ => exact hkYok7
  | 8, _ => exact hkYok8
  | 9, _ => exact hkYok9
  | 10, _ => exact hkYok10
theorem hkNm_ok {ci : Nat} (h : ci < 11) : ∀ a, a < hkNF ci → ∀ b, b < hkNF ci → a ≠ b → (hkTT ci a).2.1 ≠ (hkTT ci b).2.1 := by
  match ci, h with
  | 0, _ => exact hkNm0
  | 1, _ => exact hkNm1
  | 2, _ => exact hkNm2
  | 3, _ => exact hkNm3
  | 4, _ => exact hkNm4
  | 5, _ => exact hkNm5
  | 6, _ => exact hkNm6
  | 7, _ => exact hkNm7
  | 8, _ => exact hkNm8
  | 9, _ => exact hkNm9
  | 10, _ => exact hkNm10
theorem hkWs_ok {ci : Nat} (h : ci < 11) : ∀ w ∈ u_ws (hkOwnS ci) (hkTT ci) (hkNF ci), w ∈ lw_tbl := by
  match ci, h with
  | 0, _ => exact hkWs0
  | 1, _ => exact hkWs1
  | 2, _ => exact hkWs2
  | 3, _ => exact hkWs3
  | 4, _ => exact hkWs4
  | 5, _ => exact hkWs5
  | 6, _ => exact hkWs6
  | 7, _ => exact hkWs7
  | 8, _ => exact hkWs8
  | 9, _ => exact hkWs9
  | 10, _ => exact hkWs10
theorem hkU_good {C : String} {T : u_T} {N : Nat} : ∀ w ∈ u_ws C T N, goodWord w = true := by
  intro w hw
  unfold u_ws at hw
  obtain ⟨k, -, rfl⟩ := List.mem_map.mp hw
  unfold u_lay
  split <;> rfl
theorem hkWs_gt {ci : Nat} (h : ci < 11) : ∀ w ∈ u_ws (hkOwnS ci) (hkTT ci) (hkNF ci), w ∈ hkGt := fun w hw => hkGt_of (hkWs_ok h w hw) (hkU_good w hw)
def hkTyOk (ci k : Nat) : Bool := match hkFT ci k, hkYY ci k, (hkTT ci k).2.2.2, decide ((hkTT ci k).1 = hkOwnS ci) with
  | 0, .int, false, true => true
  | 3, .boolean, false, true => true
  | 2, .object _, true, true => true
  | 2, .array _, true, true => true
  | _, _, _, _ => false
theorem hkTyAll : ∀ ci, ci < 11 → ∀ k, k < hkNF ci → hkTyOk ci k = true := by decide +kernel
theorem hkFT0 {ci k : Nat} (h : ci < 11) (hk : k < hkNF ci) (hf : hkFT ci k = 0) : hkYY ci k = .int ∧ (hkTT ci k).2.2.2 = false := by
  have h1 := hkTyAll ci h k hk
  unfold hkTyOk at h1
  split at h1 <;> first | (rename_i e1 e2 e3 e4; exact ⟨e2, e3⟩) | (rename_i e1 e2 e3 e4; rw [hf] at e1; cases e1) | cases h1
theorem hkFT3 {ci k : Nat} (h : ci < 11) (hk : k < hkNF ci) (hf : hkFT ci k = 3) : hkYY ci k = .boolean ∧ (hkTT ci k).2.2.2 = false := by
  have h1 := hkTyAll ci h k hk
  unfold hkTyOk at h1
  split at h1 <;> first | (rename_i e1 e2 e3 e4; rw [hf] at e1; cases e1; done) | (rename_i e1 e2 e3 e4; exact ⟨e2, e3⟩) | cases h1
theorem hkFT2 {ci k : Nat} (h : ci < 11) (hk : k < hkNF ci) (hf : hkFT ci k = 2) : ((∃ n, hkYY ci k = .object n) ∨ (∃ n, hkYY ci k = .array n)) ∧ (hkTT ci k).2.2.2 = true ∧ (hkTT ci k).1 = hkOwnS ci := by
  have h1 := hkTyAll ci h k hk
  unfold hkTyOk at h1
  split at h1 <;> first | (rename_i e1 e2 e3 e4; rw [hf] at e1; cases e1; done) | (rename_i e1 e2 e3 e4; exact ⟨Or.inl ⟨_, e2⟩, e3, of_decide_eq_true e4⟩) | (rename_i e1 e2 e3 e4; exact ⟨Or.inr ⟨_, e2⟩, e3, of_decide_eq_true e4⟩) | cases h1
theorem hkFT_lt {ci k : Nat} (hk : ¬ k < hkNF ci) : hkFT ci k = 9 := by
  unfold hkFT; unfold hkNF at hk
  rw [List.getD_eq_getElem?_getD, List.getElem?_eq_none (by omega)]; rfl
theorem hkMapI {α : Type} {l : List α} {ix : α → Nat} {w : α → Cond} (h : l.map (fun q => lw_tbl[ix q]?) = l.map (fun q => some (w q))) : ∀ q ∈ l, w q ∈ lw_tbl := by
  intro q hq
  have h2 := List.map_inj_left.mp h q hq
  exact List.mem_of_getElem? h2
set_option maxRecDepth 100000 in
set_option maxHeartbeats 4000000 in
theorem hkFL_w : ∀ q ∈ hkFL, Cond.fieldLink (hkOwnS q.1) q.2.1 (hkTT q.2.2.1 q.2.2.2.1).1 (hkTT q.2.2.1 q.2.2.2.1).2.1 (hkTT q.2.2.1 q.2.2.2.1).2.2.1 ∈ lw_tbl := hkMapI (ix := fun q => q.2.2.2.2) (by rfl)
theorem hkFL_n : ∀ q ∈ hkFL, q.2.2.1 < 11 ∧ q.2.2.2.1 < hkNF q.2.2.1 := by decide +kernel
theorem hkFind_inv {α β : Type} {l : List α} {f : α → Bool} {h : α → β} {r : β} (e : (l.find? f).map h = some r) : ∃ q ∈ l, f q = true ∧ h q = r := by
  cases hf : l.find? f with
  | none => rw [hf] at e; cases e
  | some q =>
    rw [hf] at e
    exact ⟨q, List.mem_of_find?_eq_some hf, List.find?_some hf, by simpa using e⟩
theorem hkFld_ok {own idx ci k : Nat} (h : hkFld own idx = some (ci, k)) : ci < 11 ∧ k < hkNF ci ∧ Cond.fieldLink (hkOwnS own) idx (hkTT ci k).1 (hkTT ci k).2.1 (hkTT ci k).2.2.1 ∈ hkGt := by
  unfold hkFld at h
  obtain ⟨q, h1, h2, h3⟩ := hkFind_inv h
  simp only [Bool.and_eq_true, beq_iff_eq] at h2
  simp only [Prod.mk.injEq] at h3
  obtain ⟨e1, e2⟩ := h2
  obtain ⟨e3, e4⟩ := h3
  have a := hkFL_n q h1
  have b := hkGt_of (hkFL_w q h1) rfl
  rw [e1, e2, e3, e4] at b
  rw [e3, e4] at a
  exact ⟨a.1, a.2, b⟩
set_option maxRecDepth 100000 in
theorem hkKI_w : ∀ q ∈ hkKI, Cond.constant (hkOwnS q.1) q.2.1 (Int32.ofInt q.2.2.1) ∈ lw_tbl := hkMapI (ix := fun q => q.2.2.2) (by rfl)
theorem hkKI_n : ∀ q ∈ hkKI, -2147483648 ≤ q.2.2.1 ∧ q.2.2.1 ≤ 2147483647 := by decide +kernel
theorem hkCst_ok {own idx : Nat} {v : Int} (h : hkCst own idx = some v) : hkRng v ∧ Cond.constant (hkOwnS own) idx (Int32.ofInt v) ∈ hkGt := by
  unfold hkCst at h
  obtain ⟨q, h1, h2, h3⟩ := hkFind_inv h
  simp only [Bool.and_eq_true, beq_iff_eq] at h2
  obtain ⟨e1, e2⟩ := h2
  have a := hkKI_n q h1
  have b := hkGt_of (hkKI_w q h1) rfl
  rw [e1, e2, h3] at b
  rw [h3] at a
  exact ⟨a, b⟩
set_option maxRecDepth 100000 in
theorem hkKJ_w : ∀ q ∈ hkKJ, Cond.constantLong (hkOwnS q.1) q.2.1 (Int64.ofInt q.2.2.1) ∈ lw_tbl := hkMapI (ix := fun q => q.2.2.2) (by rfl)
theorem hkKJ_n : ∀ q ∈ hkKJ, -9223372036854775808 ≤ q.2.2.1 ∧ q.2.2.1 ≤ 9223372036854775807 := by decide +kernel
theorem hkCsl_ok {own idx : Nat} {v : Int} (h : hkCsl own idx = some v) : hkRngL v ∧ Cond.constantLong (hkOwnS own) idx (Int64.ofInt v) ∈ hkGt := by
  unfold hkCsl at h
  obtain ⟨q, h1, h2, h3⟩ := hkFind_inv h
  simp only [Bool.and_eq_true, beq_iff_eq] at h2
  obtain ⟨e1, e2⟩ := h2
  have a := hkKJ_n q h1
  have b := hkGt_of (hkKJ_w q h1) rfl
  rw [e1, e2, h3] at b
  rw [h3] at a
  exact ⟨a, b⟩
set_option maxRecDepth 100000 in
theorem hkCN_w : ∀ q ∈ hkCN, Cond.classLink (hkOwnS q.1) q.2.1 (hkOwnS q.2.2.1) ∈ lw_tbl := hkMapI (ix := fun q => q.2.2.2) (by rfl)
theorem hkCls_ok {own idx ci : Nat} (h : hkCls own idx = some ci) : Cond.classLink (hkOwnS own) idx (hkOwnS ci) ∈ hkGt := by
  unfold hkCls at h
  obtain ⟨q, h1, h2, h3⟩ := hkFind_inv h
  simp only [Bool.and_eq_true, beq_iff_eq] at h2
  obtain ⟨e1, e2⟩ := h2
  have b := hkGt_of (hkCN_w q h1) rfl
  rw [e1, e2, h3] at b
  exact b
set_option maxRecDepth 100000 in
theorem hkIns_w : ∀ ci, ci < 11 → Cond.instantiable (hkOwnS ci) (hkNF ci) ∈ hkGt ∧ Cond.initialized (hkOwnS ci) ∈ hkGt := by
  intro ci h
  match ci, h with
  | 0, _ => exact ⟨hkGt_i (i := 78) rfl rfl, hkGt_i (i := 62) rfl rfl⟩
  | 1, _ => exact ⟨hkGt_i (i := 86) rfl rfl, hkGt_i (i := 63) rfl rfl⟩
  | 2, _ => exact ⟨hkGt_i (i := 178) rfl rfl, hkGt_i (i := 67) rfl rfl⟩
  | 3, _ => exact ⟨hkGt_i (i := 205) rfl rfl, hkGt_i (i := 68) rfl rfl⟩
  | 4, _ => exact ⟨hkGt_i (i := 254) rfl rfl, hkGt_i (i := 70) rfl rfl⟩
  | 5, _ => exact ⟨hkGt_i (i := 280) rfl rfl, hkGt_i (i := 71) rfl rfl⟩
  | 6, _ => exact ⟨hkGt_i (i := 297) rfl rfl, hkGt_i (i := 72) rfl rfl⟩
  | 7, _ => exact ⟨hkGt_i (i := 304) rfl rfl, hkGt_i (i := 73) rfl rfl⟩
  | 8, _ => exact ⟨hkGt_i (i := 353) rfl rfl, hkGt_i (i := 74) rfl rfl⟩
  | 9, _ => exact ⟨hkGt_i (i := 377) rfl rfl, hkGt_i (i := 75) rfl rfl⟩
  | 10, _ => exact ⟨hkGt_i (i := 818) rfl rfl, hkGt_i (i := 76) rfl rfl⟩
theorem hkArr_int : Cond.arrayClass .int ∈ hkGt := hkGt_i (i := 176) rfl rfl
theorem hkArr_long : Cond.arrayClass .long ∈ hkGt := hkGt_i (i := 295) rfl rfl
set_option maxRecDepth 100000 in
theorem hkArr_bool : Cond.arrayClass .boolean ∈ hkGt := hkGt_i (i := 960) rfl rfl
end
section
/-! one instruction of the pure machine is one of the machine -/
section HKS
variable {p : Program} {l : Launch} {e : Env} {R : Room} {s : State} {m : MethodId} {args : Array Value} {below : List Frame} {meth : Method} {c : Code} {Q : State → Prop}
variable {dC : Nat → ClassId} {dI : Nat → Nat → Nat} {y : Nat} {fl : Prop} {b : Nat} {A : Nat → Prop} {adr0 : Nat → Nat} {t0 : Nat}
/-- from a point on, whatever stands for it, the machine comes to Q -/
def hkNext (p : Program) (l : Launch) (e : Env) (R : Room) (s : State) (m : MethodId) (args : Array Value) (below : List Frame) (meth : Method) (c : Code) (Q : State → Prop) (dC : Nat → ClassId) (dI : Nat → Nat → Nat) (y : Nat) (fl : Prop) (b : Nat) (A : Nat → Prop) (adr0 : Nat → Nat) (t0 : Nat) (q : hkC) : Prop :=
  ∀ (H : Heap) (locs : List Loc) (adr : Nat → Nat) (cA : Nat → ClassId) (tys : List (ClassId × FieldType)) (lsA : Array Slot), hkCx dC dI s y fl b A adr0 t0 q H locs adr cA tys lsA →
    W p l e R s m args below meth c H locs (hkNX q.2.2.2.1 - hkNX t0) (hkNS q.2.2.2.1 - hkNS t0) Q (F0 m q.1 lsA (q.2.2.1.map (hkVal adr b)))
/-- the same world, other locals or stack -/
theorem hkCx_st {pc pc' : Nat} {ls st ls' st' : List hkV} {t : Nat} {g : hkG} {H : Heap} {locs : List Loc} {adr : Nat → Nat} {cA : Nat → ClassId} {tys : List (ClassId × FieldType)} {lsA lsA' : Array Slot}
    (h : hkCx dC dI s y fl b A adr0 t0 (pc, ls, st, t, g) H locs adr cA tys lsA) (h1 : lv_has lsA' (hkX y) (hkLv adr b ls')) (h2 : ls'.length = hkX y) (h3 : ∀ v ∈ ls', hkOK fl t v ∨ v.1 = 9) (h4 : ∀ v ∈ st', hkOK fl t v) : hkCx dC dI s y fl b A adr0 t0 (pc', ls', st', t, g) H locs adr cA tys lsA' := by
  obtain ⟨a1, a2, a3, a4, a5, a6, -, -, -, -, a11, a12, a13, a14⟩ := h
  exact ⟨a1, a2, a3, a4, a5, a6, h1, h2, h3, h4, a11, a12, a13, a14⟩
theorem hkCx_s {pc pc' : Nat} {ls st st' : List hkV} {t : Nat} {g : hkG} {H : Heap} {locs : List Loc} {adr : Nat → Nat} {cA : Nat → ClassId} {tys : List (ClassId × FieldType)} {lsA : Array Slot}
    (h : hkCx dC dI s y fl b A adr0 t0 (pc, ls, st, t, g) H locs adr cA tys lsA) (h4 : ∀ v ∈ st', hkOK fl t v) : hkCx dC dI s y fl b A adr0 t0 (pc', ls, st', t, g) H locs adr cA tys lsA := by
  obtain ⟨a1, a2, a3, a4, a5, a6, a7, a8, a9, -, a11, a12, a13, a14⟩ := h
  exact ⟨a1, a2, a3, a4, a5, a6, a7, a8, a9, h4, a11, a12, a13, a14⟩
theorem hkFetch_spec {pc : Nat} {i : Instr} {n : Nat} (h : hkFetch y pc = some (i, n)) : decode (hkB y) pc = .ok (i, n) ∧ (hkLen i = n ∨ hkLen i = 0) := by
  unfold hkFetch at h
  split at h
  · rename_i i' n' hd
    split at h
    · rename_i hl
      cases h
      exact ⟨hd, hl⟩
    · cases h
  · cases h
theorem hkFetch_at {pc : Nat} {i : Instr} {n k : Nat} (h : hkFetch y pc = some (i, n)) (hl : hkLen i = k + 1) : n = k + 1 ∧ decode (hkB y) pc = .ok (i, k + 1) := by
  obtain ⟨h1, h2⟩ := hkFetch_spec h
  have e : n = k + 1 := by omega
  subst e
  exact ⟨rfl, h1⟩
theorem hkGo_inv {pc : Nat} {ls st : List hkV} {t : Nat} {g : hkG} {q : hkC} (h : hkGo pc ls st t g = some (.inl q)) : q = (pc, ls, st, t, g) := by
  unfold hkGo at h; simp at h; exact h.symm
theorem hkChk_inv {cd : Prop} {r : hkO} {z} (h : hkChk cd r = some z) : cd ∧ r = some z := by
  unfold hkChk at h
  split at h
  · rename_i hc; exact ⟨hc, h⟩
  · cases h
theorem hkOK_i {t : Nat} {x : Int} (h : hkOK fl t (0, x)) : hkRng x := by
  rcases h with ⟨-, h⟩ | ⟨h, -⟩ | ⟨h, -⟩ | ⟨h, -⟩ <;> first | exact h | (exact absurd h (by simp))
theorem hkOK_l {t : Nat} {x : Int} (h : hkOK fl t (1, x)) : hkRngL x := by
  rcases h with ⟨h, -⟩ | ⟨-, h⟩ | ⟨h, -⟩ | ⟨h, -⟩ <;> first | exact h | (exact absurd h (by simp))
theorem hkOK_r {t : Nat} {x : Int} (h : hkOK fl t (2, x)) : 0 ≤ x ∧ x.toNat < hkNX t := by
  rcases h with ⟨h, -⟩ | ⟨h, -⟩ | ⟨-, h⟩ | ⟨h, -⟩ <;> first | exact h | (exact absurd h (by simp))
theorem hkOK_s {t : Nat} {x : Int} (h : hkOK fl t (4, x)) : fl := by
  rcases h with ⟨h, -⟩ | ⟨h, -⟩ | ⟨h, -⟩ | ⟨-, h⟩ <;> first | exact h | (exact absurd h (by simp))
theorem hkOKi {t : Nat} {x : Int} (h : hkRng x) : hkOK fl t (0, x) := Or.inl ⟨rfl, h⟩
theorem hkOKl {t : Nat} {x : Int} (h : hkRngL x) : hkOK fl t (1, x) := Or.inr (Or.inl ⟨rfl, h⟩)
theorem hkOKr {t x : Nat} (h : x < hkNX t) : hkOK fl t (2, (x : Int)) := Or.inr (Or.inr (Or.inl ⟨rfl, by simp, by simpa using h⟩))
theorem hkOKu {t : Nat} {v : hkV} {P : Prop} (h : P) (_ : hkOK fl t v) : P := h
/-- a value is pushed -/
theorem hkS_push {pc pc' : Nat} {ls st : List hkV} {t : Nat} {g : hkG} {H : Heap} {locs : List Loc} {adr : Nat → Nat} {cA : Nat → ClassId} {tys : List (ClassId × FieldType)} {lsA : Array Slot} {v : hkV} {st' : List hkV}
    (h : hkCx dC dI s y fl b A adr0 t0 (pc, ls, st, t, g) H locs adr cA tys lsA) (hv : hkOK fl t v) (hst : ∀ w ∈ st', w ∈ st) (hn : hkNext p l e R s m args below meth c Q dC dI y fl b A adr0 t0 (pc', ls, v :: st', t, g)) :
    W p l e R s m args below meth c H locs (hkNX t - hkNX t0) (hkNS t - hkNS t0) Q (F0 m pc' lsA (hkVal adr b v :: st'.map (hkVal adr b))) := by
  refine hn H locs adr cA tys lsA (hkCx_s h ?_)
  intro w hw
  rcases List.mem_cons.mp hw with rfl | hw
  · exact hv
  · exact h.2.2.2.2.2.2.2.2.2.1 w (hst w hw)
end HKS
end
section
/-! the instructions, group by group -/
section HKT
variable {p : Program} {l : Launch} {e : Env} {R : Room} {s : State} {m : MethodId} {args : Array Value} {below : List Frame} {meth : Method} {c : Code} {Q : State → Prop}
variable {dC : Nat → ClassId} {dI : Nat → Nat → Nat} {y : Nat} {fl : Prop} {b : Nat} {A : Nat → Prop} {adr0 : Nat → Nat} {t0 : Nat}
variable {pc n : Nat} {ls st : List hkV} {t : Nat} {g : hkG} {H : Heap} {locs : List Loc} {adr : Nat → Nat} {cA : Nat → ClassId} {tys : List (ClassId × FieldType)} {lsA : Array Slot} {q : hkC} {i : Instr}
theorem hkS_const (hF : hkFr p R s m args meth c y fl b A) (hC : hkCx dC dI s y fl b A adr0 t0 (pc, ls, st, t, g) H locs adr cA tys lsA) (hd : hkFetch y pc = some (i, n)) (hp : hkPx y i n (pc, ls, st, t, g) = some (.inl q)) (hn : hkNext p l e R s m args below meth c Q dC dI y fl b A adr0 t0 q)
    (hi : (∃ x, i = .iconst x) ∨ (∃ x, i = .bipush x) ∨ (∃ x, i = .sipush x) ∨ (∃ x, i = .lconst x) ∨ (∃ x, i = .ldc x) ∨ (∃ x, i = .ldc_w x) ∨ (∃ x, i = .ldc2_w x)) : W p l e R s m args below meth c H locs (hkNX t - hkNX t0) (hkNS t - hkNS t0) Q (F0 m pc lsA (st.map (hkVal adr b))) := by
  obtain ⟨hx, hb, hr, hml, hown, hts, -⟩ := hF
  rcases hi with ⟨x, rfl⟩ | ⟨x, rfl⟩ | ⟨x, rfl⟩ | ⟨x, rfl⟩ | ⟨x, rfl⟩ | ⟨x, rfl⟩ | ⟨x, rfl⟩ <;> obtain ⟨rfl, hde⟩ := hkFetch_at hd rfl <;> simp only [hkPx] at hp
  · obtain rfl := hkGo_inv hp
    exact lv_iconst (v := Int32.ofInt (hkW x)) hx hb hde (hkI_w x).symm (hkS_push hC (hkOKi (hkW_rng x)) (fun _ h => h) hn)
  · obtain rfl := hkGo_inv hp
    exact lv_bipush hx hb hde (hkI_bi x) (hkS_push hC (hkOKi (hkBm8_rng x)) (fun _ h => h) hn)
  · obtain rfl := hkGo_inv hp
    exact lv_sipush hx hb hde (hkI_si x) (hkS_push hC (hkOKi (hkBm16_rng x)) (fun _ h => h) hn)
  · obtain rfl := hkGo_inv hp
    refine lv_lconst (v := Int64.ofInt ((x : Nat) : Int)) hx hb hde ?_ (hkS_push hC (hkOKl ?_) (fun _ h => h) hn)
    · rw [Int64.ofInt_eq_ofNat]
    · have := x.isLt; unfold hkRngL; omega
  · split at hp
    · rename_i v hv
      obtain rfl := hkGo_inv hp
      obtain ⟨h1, h2⟩ := hkCst_ok hv
      exact lv_ldc hx hb hown (hts _ h2) hde (hkS_push hC (hkOKi h1) (fun _ h => h) hn)
    · cases hp
  · split at hp
    · rename_i v hv
      obtain rfl := hkGo_inv hp
      obtain ⟨h1, h2⟩ := hkCst_ok hv
      exact lv_ldcw hx hb hown (hts _ h2) hde (hkS_push hC (hkOKi h1) (fun _ h => h) hn)
    · cases hp
  · split at hp
    · rename_i v hv
      obtain rfl := hkGo_inv hp
      obtain ⟨h1, h2⟩ := hkCsl_ok hv
      exact lv_ldc2 hx hb hown (hts _ h2) hde (hkS_push hC (hkOKl h1) (fun _ h => h) hn)
    · cases hp
theorem hkLd_inv {tg k pc' : Nat} (h : hkLd tg k pc' ls st t g = some (.inl q)) : ∃ x, ls[k]? = some (tg, x) ∧ q = (pc', ls, (tg, x) :: st, t, g) := by
  unfold hkLd at h
  split at h
  · rename_i v hv
    split at h
    · rename_i e
      exact ⟨v.2, by rw [hv, ← e], by rw [hkGo_inv h, ← e]⟩
    · cases h
  · cases h
theorem hkLdA_inv {k pc' : Nat} (h : hkLdA k pc' ls st t g = some (.inl q)) : ∃ v, ls[k]? = some v ∧ (v.1 = 2 ∨ v.1 = 4) ∧ q = (pc', ls, v :: st, t, g) := by
  unfold hkLdA at h
  split at h
  · rename_i v hv
    split at h
    · rename_i e
      exact ⟨v, hv, e, hkGo_inv h⟩
    · cases h
  · cases h
theorem hkCx_l (hC : hkCx dC dI s y fl b A adr0 t0 (pc, ls, st, t, g) H locs adr cA tys lsA) {k : Nat} {v : hkV} (h : ls[k]? = some v) (h9 : v.1 ≠ 9) : lsA[k]? = some (.val (hkVal adr b v)) ∧ hkOK fl t v := by
  refine ⟨hkLv_get hC.2.2.2.2.2.2.1 h h9, ?_⟩
  rcases hC.2.2.2.2.2.2.2.2.1 v (List.mem_of_getElem? h) with h1 | h1
  · exact h1
  · exact absurd h1 h9
theorem hkS_load (hF : hkFr p R s m args meth c y fl b A) (hC : hkCx dC dI s y fl b A adr0 t0 (pc, ls, st, t, g) H locs adr cA tys lsA) (hd : hkFetch y pc = some (i, n)) (hp : hkPx y i n (pc, ls, st, t, g) = some (.inl q)) (hn : hkNext p l e R s m args below meth c Q dC dI y fl b A adr0 t0 q)
    (hi : (∃ x, i = .iload x) ∨ (∃ x, i = .iload_n x) ∨ (∃ x, i = .lload x) ∨ (∃ x, i = .lload_n x) ∨ (∃ x, i = .aload x) ∨ (∃ x, i = .aload_n x)) : W p l e R s m args below meth c H locs (hkNX t - hkNX t0) (hkNS t - hkNS t0) Q (F0 m pc lsA (st.map (hkVal adr b))) := by
  obtain ⟨hx, hb, hr, hml, hown, hts, -⟩ := hF
  rcases hi with ⟨x, rfl⟩ | ⟨x, rfl⟩ | ⟨x, rfl⟩ | ⟨x, rfl⟩ | ⟨x, rfl⟩ | ⟨x, rfl⟩ <;> obtain ⟨rfl, hde⟩ := hkFetch_at hd rfl <;> simp only [hkPx] at hp
  · obtain ⟨v, h1, rfl⟩ := hkLd_inv hp
    obtain ⟨h2, h3⟩ := hkCx_l hC h1 (by simp)
    exact lv_iload hx hb hde h2 (hkS_push hC h3 (fun _ h => h) hn)
  · obtain ⟨v, h1, rfl⟩ := hkLd_inv hp
    obtain ⟨h2, h3⟩ := hkCx_l hC h1 (by simp)
    exact lv_iload_n hx hb hde rfl h2 (hkS_push hC h3 (fun _ h => h) hn)
  · obtain ⟨v, h1, rfl⟩ := hkLd_inv hp
    obtain ⟨h2, h3⟩ := hkCx_l hC h1 (by simp)
    exact lv_lload hx hb hde h2 (hkS_push hC h3 (fun _ h => h) hn)
  · obtain ⟨v, h1, rfl⟩ := hkLd_inv hp
    obtain ⟨h2, h3⟩ := hkCx_l hC h1 (by simp)
    exact lv_lload_n hx hb hde rfl h2 (hkS_push hC h3 (fun _ h => h) hn)
  · obtain ⟨⟨tg, v⟩, h1, h2, rfl⟩ := hkLdA_inv hp
    rcases h2 with h2 | h2 <;> (simp only at h2; subst h2)
    · obtain ⟨h2, h3⟩ := hkCx_l hC h1 (by simp)
      exact lv_aload hx hb hde h2 (hkS_push hC h3 (fun _ h => h) hn)
    · obtain ⟨h2, h3⟩ := hkCx_l hC h1 (by simp)
      exact lv_aload hx hb hde h2 (hkS_push hC h3 (fun _ h => h) hn)
  · obtain ⟨⟨tg, v⟩, h1, h2, rfl⟩ := hkLdA_inv hp
    rcases h2 with h2 | h2 <;> (simp only at h2; subst h2)
    · obtain ⟨h2, h3⟩ := hkCx_l hC h1 (by simp)
      exact lv_aload_n hx hb hde rfl h2 (hkS_push hC h3 (fun _ h => h) hn)
    · obtain ⟨h2, h3⟩ := hkCx_l hC h1 (by simp)
      exact lv_aload_n hx hb hde rfl h2 (hkS_push hC h3 (fun _ h => h) hn)
theorem hkSt_inv {i k pc' : Nat} {v : hkV} (h : hkSt i k pc' ls v st t g = some (.inl q)) : i + k < ls.length ∧ hkPv ls i ∧ q = (pc', (if k = 0 then ls.set i v else (ls.set i v).set (i + 1) hkU), st, t, g) := by
  unfold hkSt at h
  split at h
  · rename_i hi
    obtain ⟨h1, h2⟩ := hkChk_inv h
    exact ⟨hi, h1, hkGo_inv h2⟩
  · cases h
theorem hkS_st1 (hC : hkCx dC dI s y fl b A adr0 t0 (pc, ls, st, t, g) H locs adr cA tys lsA) {k pc' : Nat} {v : hkV} {st' : List hkV} (hv : hkOK fl t v) (hst : ∀ w ∈ st', w ∈ st) (hi : k < ls.length) (hp : hkPv ls k) (hn : hkNext p l e R s m args below meth c Q dC dI y fl b A adr0 t0 (pc', ls.set k v, st', t, g)) :
    ∀ ls' : Array Slot, lv_has ls' (hkX y) ((k, hkVal adr b v) :: (hkLv adr b ls).filter (fun q => !(q.1 == k) && !(q.1 + 1 == k && q.2.category == 2))) → W p l e R s m args below meth c H locs (hkNX t - hkNX t0) (hkNS t - hkNS t0) Q (F0 m pc' ls' (st'.map (hkVal adr b))) := by
  intro ls' h
  refine hn H locs adr cA tys ls' (hkCx_st hC (hkLv_st h hp hi) ?_ ?_ (fun w hw => hC.2.2.2.2.2.2.2.2.2.1 w (hst w hw)))
  · rw [List.length_set]; exact hC.2.2.2.2.2.2.2.1
  · intro w hw
    rcases List.mem_or_eq_of_mem_set hw with h1 | h1
    · exact hC.2.2.2.2.2.2.2.2.1 w h1
    · exact Or.inl (h1 ▸ hv)
theorem hkS_st2 (hC : hkCx dC dI s y fl b A adr0 t0 (pc, ls, st, t, g) H locs adr cA tys lsA) {k pc' : Nat} {v : hkV} {st' : List hkV} (hv : hkOK fl t v) (hst : ∀ w ∈ st', w ∈ st) (hi : k + 1 < ls.length) (hp : hkPv ls k) (hn : hkNext p l e R s m args below meth c Q dC dI y fl b A adr0 t0 (pc', (ls.set k v).set (k + 1) hkU, st', t, g)) :
    ∀ ls' : Array Slot, lv_has ls' (hkX y) ((k, hkVal adr b v) :: (hkLv adr b ls).filter (fun q => !(q.1 == k) && (!(q.1 == k + 1) && !(q.1 + 1 == k && q.2.category == 2)))) → W p l e R s m args below meth c H locs (hkNX t - hkNX t0) (hkNS t - hkNS t0) Q (F0 m pc' ls' (st'.map (hkVal adr b))) := by
  intro ls' h
  refine hn H locs adr cA tys ls' (hkCx_st hC (hkLv_st2 h hp hi) ?_ ?_ (fun w hw => hC.2.2.2.2.2.2.2.2.2.1 w (hst w hw)))
  · rw [List.length_set, List.length_set]; exact hC.2.2.2.2.2.2.2.1
  · intro w hw
    rcases List.mem_or_eq_of_mem_set hw with h1 | h1
    · rcases List.mem_or_eq_of_mem_set h1 with h2 | h2
      · exact hC.2.2.2.2.2.2.2.2.1 w h2
      · exact Or.inl (h2 ▸ hv)
    · exact Or.inr (by rw [h1]; rfl)
theorem hkS_store (hF : hkFr p R s m args meth c y fl b A) (hC : hkCx dC dI s y fl b A adr0 t0 (pc, ls, st, t, g) H locs adr cA tys lsA) (hd : hkFetch y pc = some (i, n)) (hp : hkPx y i n (pc, ls, st, t, g) = some (.inl q)) (hn : hkNext p l e R s m args below meth c Q dC dI y fl b A adr0 t0 q)
    (hi : (∃ x, i = .istore x) ∨ (∃ x, i = .istore_n x) ∨ (∃ x, i = .lstore x) ∨ (∃ x, i = .lstore_n x) ∨ (∃ x, i = .astore x) ∨ (∃ x, i = .astore_n x) ∨ (∃ x z, i = .iinc x z)) : W p l e R s m args below meth c H locs (hkNX t - hkNX t0) (hkNS t - hkNS t0) Q (F0 m pc lsA (st.map (hkVal adr b))) := by
  obtain ⟨hx, hb, hr, hml, hown, hts, -⟩ := hF
  have hlen := hC.2.2.2.2.2.2.2.1
  have hlv := hC.2.2.2.2.2.2.1
  have hstk := hC.2.2.2.2.2.2.2.2.2.1
  simp only at hlen hlv hstk
  rcases hi with ⟨x, rfl⟩ | ⟨x, rfl⟩ | ⟨x, rfl⟩ | ⟨x, rfl⟩ | ⟨x, rfl⟩ | ⟨x, rfl⟩ | ⟨x, z, rfl⟩ <;> obtain ⟨rfl, hde⟩ := hkFetch_at hd rfl <;> simp only [hkPx] at hp <;> split at hp <;> first | (cases hp; done) | skip
  · obtain ⟨h1, h2, rfl⟩ := hkSt_inv hp
    exact lv_istore hx hb hde hlv (by omega) rfl (hkS_st1 hC (hstk _ List.mem_cons_self) (fun _ h => List.mem_cons_of_mem _ h) h1 h2 hn)
  · obtain ⟨h1, h2, rfl⟩ := hkSt_inv hp
    exact lv_istore_n hx hb hde rfl hlv (by omega) rfl (hkS_st1 hC (hstk _ List.mem_cons_self) (fun _ h => List.mem_cons_of_mem _ h) h1 h2 hn)
  · obtain ⟨h1, h2, rfl⟩ := hkSt_inv hp
    exact lv_lstore hx hb hde hlv (by omega) rfl (hkS_st2 hC (hstk _ List.mem_cons_self) (fun _ h => List.mem_cons_of_mem _ h) h1 h2 hn)
  · obtain ⟨h1, h2, rfl⟩ := hkSt_inv hp
    exact lv_lstore_n hx hb hde rfl hlv (by omega) rfl (hkS_st2 hC (hstk _ List.mem_cons_self) (fun _ h => List.mem_cons_of_mem _ h) h1 h2 hn)
  · obtain ⟨h1, h2, rfl⟩ := hkSt_inv hp
    exact lv_astore hx hb hde hlv (by omega) rfl (hkS_st1 hC (hstk _ List.mem_cons_self) (fun _ h => List.mem_cons_of_mem _ h) h1 h2 hn)
  · obtain ⟨h1, h2, rfl⟩ := hkSt_inv hp
    exact lv_astore_n hx hb hde rfl hlv (by omega) rfl (hkS_st1 hC (hstk _ List.mem_cons_self) (fun _ h => List.mem_cons_of_mem _ h) h1 h2 hn)
  · rename_i a ha
    obtain ⟨h1, h2, rfl⟩ := hkSt_inv hp
    obtain ⟨h3, h4⟩ := hkCx_l hC ha (by simp)
    have hm : (x, hkVal adr b (0, a)) ∈ hkLv adr b ls := hkLv_mem.mpr ⟨_, ha, by simp, rfl⟩
    obtain ⟨k, hk⟩ := List.getElem?_of_mem hm
    refine lv_iinc (v := Int32.ofInt (hkW (a + z))) hx hb hde hlv hk ?_ (by omega) rfl (hkS_st1 hC (hkOKi (hkW_rng _)) (fun _ h => h) h1 h2 hn)
    rw [hkI_w, Int32.ofInt_add]
end HKT
end
section
/-! arithmetic, branches, the stack -/
section HKT
variable {p : Program} {l : Launch} {e : Env} {R : Room} {s : State} {m : MethodId} {args : Array Value} {below : List Frame} {meth : Method} {c : Code} {Q : State → Prop}
variable {dC : Nat → ClassId} {dI : Nat → Nat → Nat} {y : Nat} {fl : Prop} {b : Nat} {A : Nat → Prop} {adr0 : Nat → Nat} {t0 : Nat}
variable {pc n : Nat} {ls st : List hkV} {t : Nat} {g : hkG} {H : Heap} {locs : List Loc} {adr : Nat → Nat} {cA : Nat → ClassId} {tys : List (ClassId × FieldType)} {lsA : Array Slot} {q : hkC} {i : Instr}
theorem hkS_pushE {pc' : Nat} {v : hkV} {st' : List hkV} {v' : Value} (h : hkCx dC dI s y fl b A adr0 t0 (pc, ls, st, t, g) H locs adr cA tys lsA) (hv : hkOK fl t v) (hst : ∀ w ∈ st', w ∈ st) (he : hkVal adr b v = v') (hn : hkNext p l e R s m args below meth c Q dC dI y fl b A adr0 t0 (pc', ls, v :: st', t, g)) :
    W p l e R s m args below meth c H locs (hkNX t - hkNX t0) (hkNS t - hkNS t0) Q (F0 m pc' lsA (v' :: st'.map (hkVal adr b))) := by
  have := hkS_push (p := p) (l := l) (e := e) (R := R) (m := m) (args := args) (below := below) (meth := meth) (c := c) (Q := Q) h hv hst hn
  rwa [he] at this
theorem hkS_on {pc' : Nat} {st' : List hkV} (h : hkCx dC dI s y fl b A adr0 t0 (pc, ls, st, t, g) H locs adr cA tys lsA) (hst : ∀ w ∈ st', w ∈ st) (hn : hkNext p l e R s m args below meth c Q dC dI y fl b A adr0 t0 (pc', ls, st', t, g)) :
    W p l e R s m args below meth c H locs (hkNX t - hkNX t0) (hkNS t - hkNS t0) Q (F0 m pc' lsA (st'.map (hkVal adr b))) := hn H locs adr cA tys lsA (hkCx_s h (fun w hw => h.2.2.2.2.2.2.2.2.2.1 w (hst w hw)))
theorem hkBin_inv {f : Int → Int → Int} {pc' : Nat} (h : hkBin f pc' ls st t g = some (.inl q)) : ∃ x z st', st = (0, z) :: (0, x) :: st' ∧ q = (pc', ls, (0, f x z) :: st', t, g) := by
  unfold hkBin at h
  split at h
  · exact ⟨_, _, _, rfl, hkGo_inv h⟩
  · cases h
theorem hkBinL_inv {f : Int → Int → Int} {pc' : Nat} (h : hkBinL f pc' ls st t g = some (.inl q)) : ∃ x z st', st = (1, z) :: (1, x) :: st' ∧ q = (pc', ls, (1, f x z) :: st', t, g) := by
  unfold hkBinL at h
  split at h
  · exact ⟨_, _, _, rfl, hkGo_inv h⟩
  · cases h
theorem hkUn_inv {tg tg2 : Nat} {f : Int → Int} {pc' : Nat} (h : hkUn tg tg2 f pc' ls st t g = some (.inl q)) : ∃ x st', st = (tg, x) :: st' ∧ q = (pc', ls, (tg2, f x) :: st', t, g) := by
  unfold hkUn at h
  split at h
  · rename_i tg1 a st'
    split at h
    · rename_i e
      subst e
      exact ⟨_, _, rfl, hkGo_inv h⟩
    · cases h
  · cases h
theorem hkCs2 {v w : hkV} {st' : List hkV} : ∀ u ∈ st', u ∈ v :: w :: st' := fun _ h => List.mem_cons_of_mem _ (List.mem_cons_of_mem _ h)
theorem hkCs1 {v : hkV} {st' : List hkV} : ∀ u ∈ st', u ∈ v :: st' := fun _ h => List.mem_cons_of_mem _ h
theorem hkCx_k (hC : hkCx dC dI s y fl b A adr0 t0 (pc, ls, st, t, g) H locs adr cA tys lsA) : ∀ v ∈ st, hkOK fl t v := hC.2.2.2.2.2.2.2.2.2.1
theorem hkS_bin (hF : hkFr p R s m args meth c y fl b A) (hC : hkCx dC dI s y fl b A adr0 t0 (pc, ls, st, t, g) H locs adr cA tys lsA) (hd : hkFetch y pc = some (i, n)) (hp : hkPx y i n (pc, ls, st, t, g) = some (.inl q)) (hn : hkNext p l e R s m args below meth c Q dC dI y fl b A adr0 t0 q)
    (hi : i = .iadd ∨ i = .isub ∨ i = .imul ∨ i = .iand ∨ i = .ior ∨ i = .ixor ∨ i = .ishl ∨ i = .ishr ∨ i = .iushr) : W p l e R s m args below meth c H locs (hkNX t - hkNX t0) (hkNS t - hkNS t0) Q (F0 m pc lsA (st.map (hkVal adr b))) := by
  obtain ⟨hx, hb, hr, hml, hown, hts, -⟩ := hF
  rcases hi with rfl | rfl | rfl | rfl | rfl | rfl | rfl | rfl | rfl <;> obtain ⟨rfl, hde⟩ := hkFetch_at hd rfl <;> simp only [hkPx] at hp <;> obtain ⟨x, z, st', rfl, rfl⟩ := hkBin_inv hp
  · exact lv_iadd hx hb hde (hkS_pushE hC (hkOKi (hkW_rng _)) hkCs2 (by show Value.int (Int32.ofInt (hkW (x + z))) = _; rw [hkI_w, Int32.ofInt_add]) hn)
  · exact lv_isub hx hb hde (hkS_pushE hC (hkOKi (hkW_rng _)) hkCs2 (by show Value.int (Int32.ofInt (hkW (x - z))) = _; rw [hkI_w, Int32.ofInt_sub]) hn)
  · exact lv_imul hx hb hde (hkS_pushE hC (hkOKi (hkW_rng _)) hkCs2 (by show Value.int (Int32.ofInt (hkW (x * z))) = _; rw [hkI_w, Int32.ofInt_mul]) hn)
  · exact lv_iand hx hb hde (hkS_pushE hC (hkOKi (hkRng_i _)) hkCs2 (by show Value.int (Int32.ofInt (hkAnd x z)) = _; unfold hkAnd; rw [hkI_of]) hn)
  · exact lv_ior hx hb hde (hkS_pushE hC (hkOKi (hkRng_i _)) hkCs2 (by show Value.int (Int32.ofInt (hkOr x z)) = _; unfold hkOr; rw [hkI_of]) hn)
  · exact lv_ixor hx hb hde (hkS_pushE hC (hkOKi (hkRng_i _)) hkCs2 (by show Value.int (Int32.ofInt (hkXor x z)) = _; unfold hkXor; rw [hkI_of]) hn)
  · exact lv_ishl hx hb hde (hkS_pushE hC (hkOKi (hkRng_i _)) hkCs2 (by show Value.int (Int32.ofInt (hkShl x z)) = _; unfold hkShl; rw [hkI_of]) hn)
  · exact lv_ishr hx hb hde (hkS_pushE hC (hkOKi (hkRng_i _)) hkCs2 (by show Value.int (Int32.ofInt (hkShr x z)) = _; unfold hkShr; rw [hkI_of]) hn)
  · exact lv_iushr hx hb hde rfl (hkS_pushE hC (hkOKi (hkRng_i _)) hkCs2 (by show Value.int (Int32.ofInt (hkUsh x z)) = _; unfold hkUsh; rw [hkI_of]) hn)
theorem hkS_un (hF : hkFr p R s m args meth c y fl b A) (hC : hkCx dC dI s y fl b A adr0 t0 (pc, ls, st, t, g) H locs adr cA tys lsA) (hd : hkFetch y pc = some (i, n)) (hp : hkPx y i n (pc, ls, st, t, g) = some (.inl q)) (hn : hkNext p l e R s m args below meth c Q dC dI y fl b A adr0 t0 q)
    (hi : i = .ineg ∨ i = .lneg ∨ i = .i2l ∨ i = .l2i ∨ i = .i2s) : W p l e R s m args below meth c H locs (hkNX t - hkNX t0) (hkNS t - hkNS t0) Q (F0 m pc lsA (st.map (hkVal adr b))) := by
  obtain ⟨hx, hb, hr, hml, hown, hts, -⟩ := hF
  rcases hi with rfl | rfl | rfl | rfl | rfl <;> obtain ⟨rfl, hde⟩ := hkFetch_at hd rfl <;> simp only [hkPx] at hp <;> obtain ⟨x, st', rfl, rfl⟩ := hkUn_inv hp
  · exact lv_ineg hx hb hde (hkS_pushE hC (hkOKi (hkW_rng _)) hkCs1 (by show Value.int (Int32.ofInt (hkW (-x))) = _; rw [hkI_w, Int32.ofInt_neg]) hn)
  · exact lv_lneg hx hb hde (hkS_pushE hC (hkOKl (hkL_rng _)) hkCs1 (by show Value.long (Int64.ofInt (hkL (-x))) = _; rw [hkJ_l, Int64.ofInt_neg]) hn)
  · exact lv_i2l hx hb hde (hkI_i2l (hkOK_i (hkCx_k hC _ List.mem_cons_self))) (hkS_pushE hC (hkOKl (by have := hkOK_i (hkCx_k hC _ List.mem_cons_self); unfold hkRng at this; unfold hkRngL; omega)) hkCs1 (rfl) hn)
  · exact lv_l2i hx hb hde (hkI_l2i x) (hkS_pushE hC (hkOKi (hkW_rng _)) hkCs1 (rfl) hn)
  · exact lv_i2s hx hb hde (hkI_i2s (hkOK_i (hkCx_k hC _ List.mem_cons_self))) (hkS_pushE hC (hkOKi (hkBm16_rng _)) hkCs1 (rfl) hn)
theorem hkS_binL (hF : hkFr p R s m args meth c y fl b A) (hC : hkCx dC dI s y fl b A adr0 t0 (pc, ls, st, t, g) H locs adr cA tys lsA) (hd : hkFetch y pc = some (i, n)) (hp : hkPx y i n (pc, ls, st, t, g) = some (.inl q)) (hn : hkNext p l e R s m args below meth c Q dC dI y fl b A adr0 t0 q)
    (hi : i = .ladd ∨ i = .lmul) : W p l e R s m args below meth c H locs (hkNX t - hkNX t0) (hkNS t - hkNS t0) Q (F0 m pc lsA (st.map (hkVal adr b))) := by
  obtain ⟨hx, hb, hr, hml, hown, hts, -⟩ := hF
  rcases hi with rfl | rfl <;> obtain ⟨rfl, hde⟩ := hkFetch_at hd rfl <;> simp only [hkPx] at hp <;> obtain ⟨x, z, st', rfl, rfl⟩ := hkBinL_inv hp
  · exact lv_ladd hx hb hde (hkS_pushE hC (hkOKl (hkL_rng _)) hkCs2 (by show Value.long (Int64.ofInt (hkL (x + z))) = _; rw [hkJ_l, Int64.ofInt_add]) hn)
  · exact lv_lmul hx hb hde (hkS_pushE hC (hkOKl (hkL_rng _)) hkCs2 (by show Value.long (Int64.ofInt (hkL (x * z))) = _; rw [hkJ_l, Int64.ofInt_mul]) hn)
theorem hkS_div (hF : hkFr p R s m args meth c y fl b A) (hC : hkCx dC dI s y fl b A adr0 t0 (pc, ls, st, t, g) H locs adr cA tys lsA) (hd : hkFetch y pc = some (i, n)) (hp : hkPx y i n (pc, ls, st, t, g) = some (.inl q)) (hn : hkNext p l e R s m args below meth c Q dC dI y fl b A adr0 t0 q)
    (hi : i = .idiv ∨ i = .irem ∨ i = .lrem ∨ i = .lcmp) : W p l e R s m args below meth c H locs (hkNX t - hkNX t0) (hkNS t - hkNS t0) Q (F0 m pc lsA (st.map (hkVal adr b))) := by
  obtain ⟨hx, hb, hr, hml, hown, hts, -⟩ := hF
  rcases hi with rfl | rfl | rfl | rfl <;> obtain ⟨rfl, hde⟩ := hkFetch_at hd rfl <;> simp only [hkPx] at hp <;> split at hp <;> first | (cases hp; done) | skip
  · rename_i z x st'
    obtain ⟨h1, h2⟩ := hkChk_inv hp
    obtain rfl := hkGo_inv h2
    have hz := hkOK_i (hkCx_k hC _ List.mem_cons_self)
    have hxx := hkOK_i (hkCx_k hC _ (List.mem_cons_of_mem _ List.mem_cons_self))
    exact lv_idiv hx hb hde (fun h => h1 ((hkI_inj hz hkRng0).mp h)) (hkS_pushE hC (hkOKi (hkW_rng _)) hkCs2 (by show Value.int (Int32.ofInt (hkW (x.tdiv z))) = _; rw [hkI_div hxx hz]) hn)
  · rename_i z x st'
    obtain ⟨h1, h2⟩ := hkChk_inv hp
    obtain rfl := hkGo_inv h2
    have hz := hkOK_i (hkCx_k hC _ List.mem_cons_self)
    have hxx := hkOK_i (hkCx_k hC _ (List.mem_cons_of_mem _ List.mem_cons_self))
    exact lv_irem hx hb hde (fun h => h1 ((hkI_inj hz hkRng0).mp h)) (hkS_pushE hC (hkOKi (hkRem_rng hxx)) hkCs2 (by show Value.int (Int32.ofInt (x.tmod z)) = _; rw [hkI_rem hxx hz]) hn)
  · rename_i z x st'
    obtain ⟨h1, h2⟩ := hkChk_inv hp
    obtain rfl := hkGo_inv h2
    have hz := hkOK_l (hkCx_k hC _ List.mem_cons_self)
    have hxx := hkOK_l (hkCx_k hC _ (List.mem_cons_of_mem _ List.mem_cons_self))
    exact lv_lrem hx hb hde (fun h => h1 ((hkJ_inj hz (by unfold hkRngL; omega)).mp h)) (hkS_pushE hC (hkOKl (hkRemL_rng hxx)) hkCs2 (by show Value.long (Int64.ofInt (x.tmod z)) = _; rw [hkJ_rem hxx hz]) hn)
  · rename_i z x st'
    obtain rfl := hkGo_inv hp
    have hz := hkOK_l (hkCx_k hC _ List.mem_cons_self)
    have hxx := hkOK_l (hkCx_k hC _ (List.mem_cons_of_mem _ List.mem_cons_self))
    refine W.lcmp hx hb hde (hkS_pushE hC (hkOKi ?_) hkCs2 ?_ hn)
    · unfold hkCmp hkRng; split
      · omega
      · split <;> omega
    · show Value.int (Int32.ofInt (hkCmp x z)) = .int (lg_cmp (Int64.ofInt x) (Int64.ofInt z))
      unfold hkCmp lg_cmp
      simp only [hkJ_lt hxx hz, hkJ_lt hz hxx, hkJ_inj hxx hz]
      (repeat' split) <;> first | rfl | (exfalso; omega)
theorem hkBr_inv {cd : Prop} {r1 r2 : hkO} {z} (h : hkBr cd r1 r2 = some z) : (cd ∧ r1 = some z) ∨ (¬ cd ∧ r2 = some z) := by
  unfold hkBr at h
  split at h
  · rename_i hc; exact Or.inl ⟨hc, h⟩
  · rename_i hc; exact Or.inr ⟨hc, h⟩
theorem hkTgt_inv {off : Int} (h : hkTgt pc off ls st t g = some (.inl q)) : ∃ tgt : Nat, (pc : Int) + off = (tgt : Int) ∧ q = (tgt, ls, st, t, g) := by
  unfold hkTgt at h
  split at h
  · exact ⟨((pc : Int) + off).toNat, by omega, hkGo_inv h⟩
  · cases h
theorem hkS_if (hF : hkFr p R s m args meth c y fl b A) (hC : hkCx dC dI s y fl b A adr0 t0 (pc, ls, st, t, g) H locs adr cA tys lsA) (hd : hkFetch y pc = some (i, n)) (hp : hkPx y i n (pc, ls, st, t, g) = some (.inl q)) (hn : hkNext p l e R s m args below meth c Q dC dI y fl b A adr0 t0 q)
    (hi : ∃ cd off, i = .ifCond cd off) : W p l e R s m args below meth c H locs (hkNX t - hkNX t0) (hkNS t - hkNS t0) Q (F0 m pc lsA (st.map (hkVal adr b))) := by
  obtain ⟨hx, hb, hr, hml, hown, hts, -⟩ := hF
  obtain ⟨cd, off, rfl⟩ := hi
  obtain ⟨rfl, hde⟩ := hkFetch_at hd rfl
  simp only [hkPx] at hp
  split at hp
  · rename_i x st'
    split at hp
    · rename_i hof
      have hxx := hkOK_i (hkCx_k hC _ List.mem_cons_self)
      have hz := hkRng0
      have ht : (pc : Int) + off = ((((pc : Int) + off).toNat : Nat) : Int) := by omega
      rcases hkBr_inv hp with ⟨h1, h2⟩ | ⟨h1, h2⟩ <;> obtain rfl := hkGo_inv h2
      · have K := hkS_on (p := p) (l := l) (e := e) (R := R) (m := m) (args := args) (below := below) (meth := meth) (c := c) (Q := Q) hC hkCs1 hn
        cases cd <;> simp only [hkHolds] at h1
        · exact lv_if_eq hx hb hde ht (fun _ => K) (fun h => absurd ((hkI_inj hxx hz).mpr h1) h)
        · exact lv_if_ne hx hb hde ht (fun _ => K) (fun h => absurd ((hkI_inj hxx hz).mp h) h1)
        · exact lv_if_lt hx hb hde ht (fun _ => K) (fun h => absurd ((hkI_lt hxx hz).mpr h1) h)
        · exact lv_if_ge hx hb hde ht (fun _ => K) (fun h => absurd ((hkI_le hz hxx).mpr h1) h)
        · exact lv_if_gt hx hb hde ht (fun _ => K) (fun h => absurd ((hkI_lt hz hxx).mpr h1) h)
        · exact lv_if_le hx hb hde ht (fun _ => K) (fun h => absurd ((hkI_le hxx hz).mpr h1) h)
      · have K := hkS_on (p := p) (l := l) (e := e) (R := R) (m := m) (args := args) (below := below) (meth := meth) (c := c) (Q := Q) hC hkCs1 hn
        cases cd <;> simp only [hkHolds] at h1
        · exact lv_if_eq hx hb hde ht (fun h => absurd ((hkI_inj hxx hz).mp h) h1) (fun _ => K)
        · exact lv_if_ne hx hb hde ht (fun h => absurd (fun h3 => h ((hkI_inj hxx hz).mpr h3)) h1) (fun _ => K)
        · exact lv_if_lt hx hb hde ht (fun h => absurd ((hkI_lt hxx hz).mp h) h1) (fun _ => K)
        · exact lv_if_ge hx hb hde ht (fun h => absurd ((hkI_le hz hxx).mp h) h1) (fun _ => K)
        · exact lv_if_gt hx hb hde ht (fun h => absurd ((hkI_lt hz hxx).mp h) h1) (fun _ => K)
        · exact lv_if_le hx hb hde ht (fun h => absurd ((hkI_le hxx hz).mp h) h1) (fun _ => K)
    · cases hp
  · cases hp
theorem hkS_icmp (hF : hkFr p R s m args meth c y fl b A) (hC : hkCx dC dI s y fl b A adr0 t0 (pc, ls, st, t, g) H locs adr cA tys lsA) (hd : hkFetch y pc = some (i, n)) (hp : hkPx y i n (pc, ls, st, t, g) = some (.inl q)) (hn : hkNext p l e R s m args below meth c Q dC dI y fl b A adr0 t0 q)
    (hi : ∃ cd off, i = .if_icmp cd off) : W p l e R s m args below meth c H locs (hkNX t - hkNX t0) (hkNS t - hkNS t0) Q (F0 m pc lsA (st.map (hkVal adr b))) := by
  obtain ⟨hx, hb, hr, hml, hown, hts, -⟩ := hF
  obtain ⟨cd, off, rfl⟩ := hi
  obtain ⟨rfl, hde⟩ := hkFetch_at hd rfl
  simp only [hkPx] at hp
  split at hp
  · rename_i z x st'
    split at hp
    · rename_i hof
      have hz := hkOK_i (hkCx_k hC _ List.mem_cons_self)
      have hxx := hkOK_i (hkCx_k hC _ (List.mem_cons_of_mem _ List.mem_cons_self))
      have ht : (pc : Int) + off = ((((pc : Int) + off).toNat : Nat) : Int) := by omega
      rcases hkBr_inv hp with ⟨h1, h2⟩ | ⟨h1, h2⟩ <;> obtain rfl := hkGo_inv h2
      · have K := hkS_on (p := p) (l := l) (e := e) (R := R) (m := m) (args := args) (below := below) (meth := meth) (c := c) (Q := Q) hC hkCs2 hn
        cases cd <;> simp only [hkHolds] at h1
        · exact lv_icmp_eq hx hb hde ht (fun _ => K) (fun h => absurd ((hkI_inj hxx hz).mpr h1) h)
        · exact lv_icmp_ne hx hb hde ht (fun _ => K) (fun h => absurd ((hkI_inj hxx hz).mp h) h1)
        · exact lv_icmp_lt hx hb hde ht (fun _ => K) (fun h => absurd ((hkI_lt hxx hz).mpr h1) h)
        · exact lv_icmp_ge hx hb hde ht (fun _ => K) (fun h => absurd ((hkI_le hz hxx).mpr h1) h)
        · exact lv_icmp_gt hx hb hde ht (fun _ => K) (fun h => absurd ((hkI_lt hz hxx).mpr h1) h)
        · exact lv_icmp_le hx hb hde ht (fun _ => K) (fun h => absurd ((hkI_le hxx hz).mpr h1) h)
      · have K := hkS_on (p := p) (l := l) (e := e) (R := R) (m := m) (args := args) (below := below) (meth := meth) (c := c) (Q := Q) hC hkCs2 hn
        cases cd <;> simp only [hkHolds] at h1
        · exact lv_icmp_eq hx hb hde ht (fun h => absurd ((hkI_inj hxx hz).mp h) h1) (fun _ => K)
        · exact lv_icmp_ne hx hb hde ht (fun h => absurd (fun h3 => h ((hkI_inj hxx hz).mpr h3)) h1) (fun _ => K)
        · exact lv_icmp_lt hx hb hde ht (fun h => absurd ((hkI_lt hxx hz).mp h) h1) (fun _ => K)
        · exact lv_icmp_ge hx hb hde ht (fun h => absurd ((hkI_le hz hxx).mp h) h1) (fun _ => K)
        · exact lv_icmp_gt hx hb hde ht (fun h => absurd ((hkI_lt hz hxx).mp h) h1) (fun _ => K)
        · exact lv_icmp_le hx hb hde ht (fun h => absurd ((hkI_le hxx hz).mp h) h1) (fun _ => K)
    · cases hp
  · cases hp
theorem hkS_goto (hF : hkFr p R s m args meth c y fl b A) (hC : hkCx dC dI s y fl b A adr0 t0 (pc, ls, st, t, g) H locs adr cA tys lsA) (hd : hkFetch y pc = some (i, n)) (hp : hkPx y i n (pc, ls, st, t, g) = some (.inl q)) (hn : hkNext p l e R s m args below meth c Q dC dI y fl b A adr0 t0 q)
    (hi : (∃ off, i = .goto off) ∨ (∃ a1 a2 a3 a4, i = .tableswitch a1 a2 a3 a4) ∨ i = .dup ∨ i = .dup2) : W p l e R s m args below meth c H locs (hkNX t - hkNX t0) (hkNS t - hkNS t0) Q (F0 m pc lsA (st.map (hkVal adr b))) := by
  obtain ⟨hx, hb, hr, hml, hown, hts, -⟩ := hF
  rcases hi with ⟨off, rfl⟩ | ⟨a1, a2, a3, a4, rfl⟩ | rfl | rfl
  · obtain ⟨rfl, hde⟩ := hkFetch_at hd rfl
    simp only [hkPx] at hp
    obtain ⟨tgt, ht, rfl⟩ := hkTgt_inv hp
    exact lv_goto hx hb hde ht (hkS_on hC (fun _ h => h) hn)
  · obtain ⟨hde, -⟩ := hkFetch_spec hd
    simp only [hkPx] at hp
    split at hp
    · rename_i x st'
      have hxx := hkOK_i (hkCx_k hC _ List.mem_cons_self)
      split at hp
      · rename_i off ho
        obtain ⟨tgt, ht, rfl⟩ := hkTgt_inv hp
        unfold hkSw at ho
        split at ho
        · rename_i hlo
          cases ho
          exact lv_tableOut hx hb hde (by rw [hkI_toInt hxx]; exact hlo) ht (hkS_on hC hkCs1 hn)
        · rename_i hlo
          exact lv_tableIn hx hb hde (by rw [hkI_toInt hxx]; omega) (by rw [hkI_toInt hxx]; omega) (by rw [hkI_toInt hxx]; exact ho) ht (hkS_on hC hkCs1 hn)
      · cases hp
    · cases hp
  · obtain ⟨rfl, hde⟩ := hkFetch_at hd rfl
    simp only [hkPx] at hp
    split at hp
    · rename_i v st'
      obtain ⟨h1, h2⟩ := hkChk_inv hp
      obtain rfl := hkGo_inv h2
      refine lv_dup hx hb hde ?_ (hkS_push (st' := v :: st') hC (hkCx_k hC _ List.mem_cons_self) (fun _ h => h) hn)
      rw [hkCat_val]; unfold hkCat; unfold hkP1 at h1; rw [if_neg h1]
    · cases hp
  · obtain ⟨rfl, hde⟩ := hkFetch_at hd rfl
    simp only [hkPx] at hp
    split at hp
    · rename_i v w st'
      obtain ⟨h1, h2⟩ := hkChk_inv hp
      obtain rfl := hkGo_inv h2
      refine lv_dup2_11 hx hb hde ?_ ?_ (hn H locs adr cA tys lsA (hkCx_s hC ?_))
      · rw [hkCat_val]; unfold hkCat; have := h1.1; unfold hkP1 at this; rw [if_neg this]
      · rw [hkCat_val]; unfold hkCat; have := h1.2; unfold hkP1 at this; rw [if_neg this]
      · intro u hu
        simp only [List.mem_cons] at hu
        rcases hu with rfl | rfl | hu
        · exact hkCx_k hC _ List.mem_cons_self
        · exact hkCx_k hC _ (List.mem_cons_of_mem _ List.mem_cons_self)
        · exact hkCx_k hC _ (by simp only [List.mem_cons]; exact hu)
    · cases hp
end HKT
end
section
/-! fields, arrays, what is made -/
section HKT
variable {p : Program} {l : Launch} {e : Env} {R : Room} {s : State} {m : MethodId} {args : Array Value} {below : List Frame} {meth : Method} {c : Code} {Q : State → Prop}
variable {dC : Nat → ClassId} {dI : Nat → Nat → Nat} {y : Nat} {fl : Prop} {b : Nat} {A : Nat → Prop} {adr0 : Nat → Nat} {t0 : Nat}
variable {pc n : Nat} {ls st : List hkV} {t : Nat} {g : hkG} {H : Heap} {locs : List Loc} {adr : Nat → Nat} {cA : Nat → ClassId} {tys : List (ClassId × FieldType)} {lsA : Array Slot} {q : hkC} {i : Instr}
theorem hkCell_o {P : Nat} (h : hkKd P < 11) : hkCell adr cA t g P = .inr (hkKd P, hkFs adr t g P) := by unfold hkCell; rw [if_pos h]
theorem hkCell_l {P : Nat} (h : hkKd P = 101) : hkCell adr cA t g P = .inl (cA P, hkLn P, .inr (.inl (fun j => Int64.ofInt (g P j)))) := by unfold hkCell; rw [if_neg (by omega), if_pos h]
theorem hkCell_i {P : Nat} (h : hkKd P = 100 ∨ hkKd P = 102) : hkCell adr cA t g P = .inl (cA P, hkLn P, .inl (fun j => Int32.ofInt (g P j))) := by unfold hkCell; rw [if_neg (by omega), if_neg (by omega), if_pos (by omega)]
theorem hkCell_q {P : Nat} (h : hkKd P = 103 ∨ hkKd P = 104) : hkCell adr cA t g P = .inl (cA P, hkLn P, .inr (.inr (.inr (.inr (fun j => if hkAT P j ≤ t then some (adr (hkRF P j)) else none))))) := by unfold hkCell; rw [if_neg (by omega), if_neg (by omega), if_neg (by omega)]
theorem hkJK_inv {x : Int} {k : Nat} (h : hkJK x = k) (hk : k < 999) : 0 ≤ x ∧ hkKd x.toNat = k ∧ ((x.toNat : Nat) : Int) = x := by
  unfold hkJK at h
  split at h
  · omega
  · exact ⟨by omega, h, by omega⟩
theorem hkSet_row {x k v : Int} {r : Int} (h : r ≠ x) : hkSet g x k v r = g r := by
  funext j; unfold hkSet; rw [if_neg (fun h2 => h h2.1)]
theorem hkSet_at {x k v : Int} : hkSet g x k v x k = v := by unfold hkSet; rw [if_pos ⟨rfl, rfl⟩]
theorem hkSet_ne {x k v r j : Int} (h : ¬ (r = x ∧ j = k)) : hkSet g x k v r j = g r j := by unfold hkSet; rw [if_neg h]
theorem hkFs_row {g' : hkG} {P : Nat} (h : g' (P : Int) = g (P : Int)) : hkFs adr t g' P = hkFs adr t g P := by
  unfold hkFs hkFv; rw [h]
theorem hkCell_row {g' : hkG} {P : Nat} (h : g' (P : Int) = g (P : Int)) : hkCell adr cA t g' P = hkCell adr cA t g P := by
  unfold hkCell; rw [hkFs_row h, h]
theorem hkGOK_set {x k v : Int} (h : hkGOK t g) (h0 : 0 ≤ x) (hx : x.toNat < hkNX t) (hv : if hkKd x.toNat = 101 then hkRngL v else hkRng v) : hkGOK t (hkSet g x k v) := by
  refine ⟨fun P j hP => ?_, fun P j hP => ?_⟩
  · unfold hkSet
    by_cases e : (P : Int) = x ∧ (j : Int) = k
    · rw [if_pos e]
      have : P = x.toNat := by omega
      rw [this]; exact hv
    · rw [if_neg e]; exact h.1 P j hP
  · rw [hkSet_row (by omega)]; exact h.2 P j hP
theorem hkCx_mem {pc' : Nat} {st' : List hkV} {g' : hkG} {H1 : Heap} {locs1 : List Loc} (hC : hkCx dC dI s y fl b A adr0 t0 (pc, ls, st, t, g) H locs adr cA tys lsA) (hP : va_P (dC, dI) hkCl (hkWs adr cA t g') H1) (hD : va_D A (hkWs adr cA t g')) (hS : va_S A s.heap H1 locs1) (hg : hkGOK t g') (hneg : ∀ r : Int, r < 0 → g' r = g r) (h4 : ∀ v ∈ st', v ∈ st) : hkCx dC dI s y fl b A adr0 t0 (pc', ls, st', t, g') H1 locs1 adr cA tys lsA := by
  obtain ⟨a1, a2, a3, a4, a5, a6, a7, a8, a9, a10, a11, a12, a13, a14⟩ := hC
  refine ⟨hP, a2, hD, hS, a5, hg, a7, a8, a9, fun v hv => a10 v (h4 v hv), a11, a12, a13, fun h L xs hX => ?_⟩
  obtain ⟨b1, b2, b3⟩ := a14 h L xs hX
  simp only at b1 b3 ⊢
  rw [hneg (-2) (by decide), hneg (-1) (by decide)]
  exact ⟨b1, b2, b3⟩
theorem hkLn_le : ∀ P, P < 91 → hkLn P ≤ 42875 := by decide +kernel
theorem hkFs_get {P k : Nat} (hk : k < hkLn P) : (hkFs adr t g P)[k]? = some (hkFv adr t g P k) := by
  unfold hkFs; simp [hk]
theorem hkFs_len {P : Nat} : (hkFs adr t g P).length = hkLn P := by unfold hkFs; simp
theorem hkFs_set {P k : Nat} {x v : Int} (hx : (P : Int) = x) (hf : hkFT (hkKd P) k ≠ 2) : (hkFs adr t g P).set k (.int (Int32.ofInt v)) = hkFs adr t (hkSet g x k v) P := by
  apply List.ext_getElem?
  intro j
  rw [List.getElem?_set, hkFs_len]
  by_cases hj : j < hkLn P
  · rw [hkFs_get hj, hkFs_get hj]
    by_cases e : k = j
    · subst e
      rw [if_pos rfl, if_pos hj]
      unfold hkFv
      rw [if_neg hf, hx, hkSet_at]
    · rw [if_neg e]
      unfold hkFv
      rw [hkSet_ne (fun h => e (by omega))]
  · have a1 : (hkFs adr t (hkSet g x k v) P)[j]? = none := List.getElem?_eq_none (by rw [hkFs_len]; omega)
    have a2 : (hkFs adr t g P)[j]? = none := List.getElem?_eq_none (by rw [hkFs_len]; omega)
    rw [a1, a2]
    by_cases e : k = j
    · rw [if_pos e, if_neg (by omega)]
    · rw [if_neg e]
theorem hkNF_ln {P : Nat} (hP : P < 91) (h : hkKd P < 11) : hkLn P = hkNF (hkKd P) := hkKd_ln P hP h
theorem hkFv_i {P k : Nat} (hf : hkFT (hkKd P) k ≠ 2) : hkFv adr t g P k = .int (Int32.ofInt (g P k)) := by unfold hkFv; rw [if_neg hf]
theorem hkFv_r {P k : Nat} (hf : hkFT (hkKd P) k = 2) (ha : hkAT P k ≤ t) : hkFv adr t g P k = .ref (adr (hkRF P k)) := by unfold hkFv; rw [if_pos hf, if_pos ha]
theorem hkS_getf (hF : hkFr p R s m args meth c y fl b A) (hC : hkCx dC dI s y fl b A adr0 t0 (pc, ls, st, t, g) H locs adr cA tys lsA) (hd : hkFetch y pc = some (i, n)) (hp : hkPx y i n (pc, ls, st, t, g) = some (.inl q)) (hn : hkNext p l e R s m args below meth c Q dC dI y fl b A adr0 t0 q)
    (hi : ∃ x, i = .getfield x) : W p l e R s m args below meth c H locs (hkNX t - hkNX t0) (hkNS t - hkNS t0) Q (F0 m pc lsA (st.map (hkVal adr b))) := by
  obtain ⟨hx, hb, hr, hml, hown, hts, -⟩ := hF
  obtain ⟨x, rfl⟩ := hi
  obtain ⟨rfl, hde⟩ := hkFetch_at hd rfl
  simp only [hkPx] at hp
  unfold hkGetf at hp
  split at hp
  · rename_i P st' ci k hfl
    obtain ⟨h1, h2⟩ := hkChk_inv hp
    obtain ⟨hci, hk, hw⟩ := hkFld_ok hfl
    obtain ⟨h3, h4, h5⟩ := hkJK_inv h1 (by omega)
    obtain ⟨-, h6⟩ := hkOK_r (hkCx_k hC _ List.mem_cons_self)
    have h91 : P.toNat < 91 := Nat.lt_of_lt_of_le h6 (hkNX_le t)
    have hln := hkNF_ln h91 (by omega)
    have hkl : k < hkLn P.toNat := by rw [hln, h4]; exact hk
    have hws := hkWs_get (adr := adr) (cA := cA) (g := g) h6
    rw [hkCell_o (by omega), h4] at hws
    have hget := hkFs_get (adr := adr) (t := t) (g := g) hkl
    split at h2
    · rename_i hft
      obtain ⟨h7, h8⟩ := hkChk_inv h2
      obtain rfl := hkGo_inv h8
      rw [hkFv_r (by rw [h4]; exact hft) h7] at hget
      refine va_get (q0 := P.toNat) (k := k) hx hb hts (hkWs_gt hci) hown hC.2.1 hC.1 hws (hkCl_ok hci) hk (hts _ hw) (fun _ h => h) hget hde (hkS_pushE hC (hkOKr (hkRF_lt h7 hC.2.2.2.2.2.2.2.2.2.2.2.1).1) hkCs1 ?_ hn)
      show Value.ref (adr (((hkRF P.toNat k : Nat) : Int)).toNat) = _
      rw [Int.toNat_natCast]
    · rename_i hft
      obtain rfl := hkGo_inv h2
      rw [hkFv_i (by rw [h4]; exact hft), h5] at hget
      refine va_get (q0 := P.toNat) (k := k) hx hb hts (hkWs_gt hci) hown hC.2.1 hC.1 hws (hkCl_ok hci) hk (hts _ hw) (fun _ h => h) hget hde (hkS_push hC (hkOKi ?_) hkCs1 hn)
      have := hC.2.2.2.2.2.1.1 P.toNat k h6
      rw [if_neg (by omega), h5] at this
      exact this
  · cases hp
theorem hkS_putI (hF : hkFr p R s m args meth c y fl b A) {P x : Int} {idx ci k : Nat} {st' : List hkV} (hC : hkCx dC dI s y fl b A adr0 t0 (pc, ls, (0, x) :: (2, P) :: st', t, g) H locs adr cA tys lsA) (hde : decode (hkB y) pc = .ok (.putfield idx, 3)) (hfl : hkFld (hkOwn y) idx = some (ci, k)) (h1 : hkJK P = ci) (hty : ∃ ty : FieldType, hkYY ci k = ty ∧ narrow ty (.int (Int32.ofInt x)) = .int (Int32.ofInt x) ∧ fits ty (.int (Int32.ofInt x)) = true) (hfin : (hkTT ci k).2.2.2 = false) (hf2 : hkFT ci k ≠ 2) (hn : hkNext p l e R s m args below meth c Q dC dI y fl b A adr0 t0 (pc + 3, ls, st', t, hkSet g P k x)) :
    W p l e R s m args below meth c H locs (hkNX t - hkNX t0) (hkNS t - hkNS t0) Q (F0 m pc lsA (((0, x) :: (2, P) :: st').map (hkVal adr b))) := by
  obtain ⟨hx, hb, hr, hml, hown, hts, -⟩ := hF
  obtain ⟨hci, hk, hw⟩ := hkFld_ok hfl
  obtain ⟨h3, h4, h5⟩ := hkJK_inv h1 (by omega)
  obtain ⟨-, h6⟩ := hkOK_r (hkCx_k hC _ (List.mem_cons_of_mem _ List.mem_cons_self))
  have hxr := hkOK_i (hkCx_k hC _ List.mem_cons_self)
  have h91 : P.toNat < 91 := Nat.lt_of_lt_of_le h6 (hkNX_le t)
  have hln := hkNF_ln h91 (by omega)
  have hkl : k < hkLn P.toNat := by rw [hln, h4]; exact hk
  have hws := hkWs_get (adr := adr) (cA := cA) (g := g) h6
  rw [hkCell_o (by omega), h4] at hws
  obtain ⟨ty, hty1, hty2, hty3⟩ := hty
  refine va_put (q0 := P.toNat) (k := k) (ty := ty) (v := .int (Int32.ofInt x)) hx hb hts (hkWs_gt hci) (hkYY ci) (hkYok_ok hci) (hkNm_ok hci) hown hC.2.1 hC.1 hC.2.2.1 hC.2.2.2.1 hws (hkCl_ok hci) hk (hts _ hw) (fun _ h => h) hfin (by rw [hkYok_ok hci k hk, hty1]) hty2 hty3 (by rw [hkFs_len]; exact hkl) hde (fun H1 locs1 hP hD hS => ?_)
  have hset : (hkWs adr cA t g).set P.toNat (adr P.toNat, .inr (ci, (hkFs adr t g P.toNat).set k (.int (Int32.ofInt x)))) = hkWs adr cA t (hkSet g P k x) := by
    refine hkWs_set h6 rfl ?_ (fun r hr hne => hkCell_row (hkSet_row (by omega)))
    rw [hkCell_o (by omega), h4, hkFs_set h5 (by rw [h4]; exact hf2)]
  dsimp only at hP hD
  rw [hset] at hP hD
  refine hn H1 locs1 adr cA tys lsA (hkCx_mem hC hP hD hS (hkGOK_set hC.2.2.2.2.2.1 h3 h6 ?_) (fun r hr => hkSet_row (by omega)) hkCs2)
  rw [if_neg (by omega)]; exact hxr
theorem hkFs_setR {P k v : Nat} (hE : hkEV[t]? = some (1, P, k, v)) (hf : hkFT (hkKd P) k = 2) : (hkFs adr t g P).set k (.ref (adr v)) = hkFs adr (t + 1) g P := by
  obtain ⟨e1, e2, e3, e4, e5, e6, e7⟩ := hkEv1 hE
  apply List.ext_getElem?
  intro j
  rw [List.getElem?_set, hkFs_len]
  by_cases hj : j < hkLn P
  · rw [hkFs_get hj, hkFs_get hj]
    by_cases e : k = j
    · subst e
      rw [if_pos rfl, if_pos hj, hkFv_r hf (by omega), e2]
    · rw [if_neg e]
      unfold hkFv
      by_cases hf2 : hkFT (hkKd P) j = 2
      · rw [if_pos hf2, if_pos hf2]
        have := hkAT_put (p := P) (k := j) hE
        by_cases ha : hkAT P j ≤ t
        · rw [if_pos ha, if_pos (by omega)]
        · rw [if_neg ha, if_neg (by rw [this]; omega)]
      · rw [if_neg hf2, if_neg hf2]
  · have a1 : (hkFs adr (t + 1) g P)[j]? = none := List.getElem?_eq_none (by rw [hkFs_len]; omega)
    have a2 : (hkFs adr t g P)[j]? = none := List.getElem?_eq_none (by rw [hkFs_len]; omega)
    rw [a1, a2]
    by_cases e : k = j
    · rw [if_pos e, if_neg (by omega)]
    · rw [if_neg e]
theorem hkCell_put {P k v r : Nat} (hE : hkEV[t]? = some (1, P, k, v)) (hr : r ≠ P) : hkCell adr cA (t + 1) g r = hkCell adr cA t g r := by
  have h : ∀ j, (hkAT r j ≤ t + 1) = (hkAT r j ≤ t) := fun j => propext (by have := hkAT_put (p := r) (k := j) hE; omega)
  unfold hkCell hkFs hkFv
  simp only [h]
/-- the world as it stands at the next event, nothing new made -/
theorem hkCx_ev {pc' : Nat} {st' : List hkV} {H1 : Heap} {locs1 : List Loc} {P k v : Nat} (hC : hkCx dC dI s y fl b A adr0 t0 (pc, ls, st, t, g) H locs adr cA tys lsA) (hE : hkEV[t]? = some (1, P, k, v)) (hP : va_P (dC, dI) hkCl (hkWs adr cA (t + 1) g) H1) (hD : va_D A (hkWs adr cA (t + 1) g)) (hS : va_S A s.heap H1 locs1) (h4 : ∀ v ∈ st', v ∈ st) : hkCx dC dI s y fl b A adr0 t0 (pc', ls, st', t + 1, g) H1 locs1 adr cA tys lsA := by
  obtain ⟨a1, a2, a3, a4, a5, a6, a7, a8, a9, a10, a11, a12, a13, a14⟩ := hC
  obtain ⟨e1, e2, e3, e4, e5, e6, e7⟩ := hkEv1 hE
  have hlt := hkEv_lt hE
  simp only at a5 a6 a9 a10 a11
  refine ⟨hP, a2, hD, hS, ?_, ?_, a7, a8, fun w hw => ?_, fun w hw => hkOK_mono (a10 w (h4 w hw)) (Nat.le_succ t), Nat.le_succ_of_le a11, by simp only; omega, a13, a14⟩
  · simp only [e6]; exact a5
  · unfold hkGOK; simp only [e6]; exact a6
  · rcases a9 w hw with h | h
    · exact Or.inl (hkOK_mono h (Nat.le_succ t))
    · exact Or.inr h
theorem hkS_putf (hF : hkFr p R s m args meth c y fl b A) (hC : hkCx dC dI s y fl b A adr0 t0 (pc, ls, st, t, g) H locs adr cA tys lsA) (hd : hkFetch y pc = some (i, n)) (hp : hkPx y i n (pc, ls, st, t, g) = some (.inl q)) (hn : hkNext p l e R s m args below meth c Q dC dI y fl b A adr0 t0 q)
    (hi : ∃ x, i = .putfield x) : W p l e R s m args below meth c H locs (hkNX t - hkNX t0) (hkNS t - hkNS t0) Q (F0 m pc lsA (st.map (hkVal adr b))) := by
  have hF' := hF
  obtain ⟨hx, hb, hr, hml, hown, hts, hnm, -⟩ := hF
  obtain ⟨x, rfl⟩ := hi
  obtain ⟨rfl, hde⟩ := hkFetch_at hd rfl
  simp only [hkPx] at hp
  unfold hkPutf at hp
  split at hp
  · rename_i z P st' ci k hfl
    obtain ⟨h1, h2⟩ := hkChk_inv hp
    obtain ⟨hci, hk, hw⟩ := hkFld_ok hfl
    split at h2
    · rename_i hft
      obtain rfl := hkGo_inv h2
      obtain ⟨f1, f2⟩ := hkFT0 hci hk hft
      exact hkS_putI hF' hC hde hfl h1 ⟨_, f1, rfl, rfl⟩ f2 (by omega) hn
    · split at h2
      · rename_i hft
        obtain ⟨h3, h4⟩ := hkChk_inv h2
        obtain rfl := hkGo_inv h4
        obtain ⟨f1, f2⟩ := hkFT3 hci hk hft
        exact hkS_putI hF' hC hde hfl h1 ⟨_, f1, by rcases h3 with rfl | rfl <;> rfl, by rcases h3 with rfl | rfl <;> rfl⟩ f2 (by omega) hn
      · cases h2
  · rename_i z P st' ci k hfl
    split at hp
    · rename_i hft
      obtain ⟨⟨h1, h1b, h1c, h1d⟩, h2⟩ := hkChk_inv hp
      obtain rfl := hkGo_inv h2
      obtain ⟨hci, hk, hw⟩ := hkFld_ok hfl
      obtain ⟨f1, f2, f3⟩ := hkFT2 hci hk hft
      obtain ⟨h3, h4, h5⟩ := hkJK_inv h1 (by omega)
      obtain ⟨-, h6⟩ := hkOK_r (hkCx_k hC _ (List.mem_cons_of_mem _ List.mem_cons_self))
      obtain ⟨h7, -⟩ := hkOK_r (hkCx_k hC _ List.mem_cons_self)
      obtain ⟨e1, e2, e3, e4, e5, e6, e7⟩ := hkEv1 h1d
      have hws := hkWs_get (adr := adr) (cA := cA) (g := g) h6
      rw [hkCell_o (by omega), h4] at hws
      refine va_putF (q0 := P.toNat) (k := k) (ty := hkYY ci k) (v := .ref (adr z.toNat)) hx hb hts (hkWs_gt hci) (hkYY ci) (hkYok_ok hci) (hkNm_ok hci) hown hC.2.1 hC.1 hC.2.2.1 hC.2.2.2.1 hws (hkCl_ok hci) hk (hts _ hw) (fun _ h => h) f2 (hnm h1c) (by rw [f3, h1b]) (hkYok_ok hci k hk) ?_ ?_ (by rw [hkFs_len]; exact e5) hde (fun H1 locs1 hP hD hS => ?_)
      · rcases f1 with ⟨nn, f1⟩ | ⟨nn, f1⟩ <;> rw [f1] <;> rfl
      · rcases f1 with ⟨nn, f1⟩ | ⟨nn, f1⟩ <;> rw [f1] <;> rfl
      · have hset : (hkWs adr cA t g).set P.toNat (adr P.toNat, .inr (ci, (hkFs adr t g P.toNat).set k (.ref (adr z.toNat)))) = hkWs adr cA (t + 1) g := by
          refine hkWs_set h6 e6 ?_ (fun r hr hne => hkCell_put h1d hne)
          rw [hkCell_o (by omega), h4, hkFs_setR h1d (by rw [h4]; exact hft)]
        dsimp only at hP hD
        rw [hset] at hP hD
        have K := hn H1 locs1 adr cA tys lsA (hkCx_ev hC h1d hP hD hS hkCs2)
        simp only [e6, e7] at K
        exact K
    · cases hp
  · cases hp
end HKT
end
section
/-! arrays, the script, copies -/
section HKT
variable {p : Program} {l : Launch} {e : Env} {R : Room} {s : State} {m : MethodId} {args : Array Value} {below : List Frame} {meth : Method} {c : Code} {Q : State → Prop}
variable {dC : Nat → ClassId} {dI : Nat → Nat → Nat} {y : Nat} {fl : Prop} {b : Nat} {A : Nat → Prop} {adr0 : Nat → Nat} {t0 : Nat}
variable {pc n : Nat} {ls st : List hkV} {t : Nat} {g : hkG} {H : Heap} {locs : List Loc} {adr : Nat → Nat} {cA : Nat → ClassId} {tys : List (ClassId × FieldType)} {lsA : Array Slot} {q : hkC} {i : Instr}
theorem hkCx_ty (hC : hkCx dC dI s y fl b A adr0 t0 (pc, ls, st, t, g) H locs adr cA tys lsA) {P : Nat} (hP : P < hkNX t) (h : 100 ≤ hkKd P) : ∃ k0 : Nat, tys[k0]? = some (cA P, hkAty (hkKd P)) := hC.2.2.2.2.1 P hP h
theorem hkCx_ri (hC : hkCx dC dI s y fl b A adr0 t0 (pc, ls, st, t, g) H locs adr cA tys lsA) {P : Nat} (hP : P < hkNX t) (k : Int) (h0 : 0 ≤ k) (h : hkKd P ≠ 101) : hkRng (g P k) := by
  have := hC.2.2.2.2.2.1.1 P k.toNat hP
  rw [if_neg h, show ((k.toNat : Nat) : Int) = k from by omega] at this
  exact this
theorem hkCx_rl (hC : hkCx dC dI s y fl b A adr0 t0 (pc, ls, st, t, g) H locs adr cA tys lsA) {P : Nat} (hP : P < hkNX t) (k : Int) (h0 : 0 ≤ k) (h : hkKd P = 101) : hkRngL (g P k) := by
  have := hC.2.2.2.2.2.1.1 P k.toNat hP
  rw [if_pos h, show ((k.toNat : Nat) : Int) = k from by omega] at this
  exact this
theorem hkAld_inv {kd tg pc' : Nat} (h : hkAld kd tg pc' ls st t g = some (.inl q)) : (∃ k P st', st = (0, k) :: (2, P) :: st' ∧ hkJK P = kd ∧ 0 ≤ k ∧ k < (hkLn P.toNat : Int) ∧ q = (pc', ls, (tg, g P k) :: st', t, g)) ∨ (∃ k P st', st = (0, k) :: (4, P) :: st' ∧ kd = 100 ∧ 0 ≤ k ∧ k < g (-2) 0 ∧ q = (pc', ls, (0, g (-1) k) :: st', t, g)) := by
  unfold hkAld at h
  split at h
  · obtain ⟨⟨h1, h2, h3⟩, h4⟩ := hkChk_inv h
    exact Or.inl ⟨_, _, _, rfl, h1, h2, h3, hkGo_inv h4⟩
  · split at h
    · rename_i hk
      obtain ⟨⟨h2, h3⟩, h4⟩ := hkChk_inv h
      exact Or.inr ⟨_, _, _, rfl, hk, h2, h3, hkGo_inv h4⟩
    · cases h
  · cases h
theorem hkS_ald (hF : hkFr p R s m args meth c y fl b A) (hC : hkCx dC dI s y fl b A adr0 t0 (pc, ls, st, t, g) H locs adr cA tys lsA) (hd : hkFetch y pc = some (i, n)) (hp : hkPx y i n (pc, ls, st, t, g) = some (.inl q)) (hn : hkNext p l e R s m args below meth c Q dC dI y fl b A adr0 t0 q)
    (hi : i = .iaload ∨ i = .laload ∨ i = .baload) : W p l e R s m args below meth c H locs (hkNX t - hkNX t0) (hkNS t - hkNS t0) Q (F0 m pc lsA (st.map (hkVal adr b))) := by
  obtain ⟨hx, hb, hr, hml, hown, hts, -, -, -, -, -, -, hscr⟩ := hF
  rcases hi with rfl | rfl | rfl <;> obtain ⟨rfl, hde⟩ := hkFetch_at hd rfl <;> simp only [hkPx] at hp <;> rcases hkAld_inv hp with ⟨k, P, st', rfl, h1, h2, h3, rfl⟩ | ⟨k, P, st', rfl, h1, h2, h3, rfl⟩
  · obtain ⟨h4, h5, h6⟩ := hkJK_inv h1 (by omega)
    obtain ⟨-, h7⟩ := hkOK_r (hkCx_k hC _ (List.mem_cons_of_mem _ List.mem_cons_self))
    have hk := hkOK_i (hkCx_k hC _ List.mem_cons_self)
    have hws := hkWs_get (adr := adr) (cA := cA) (g := g) h7
    rw [hkCell_i (by omega)] at hws
    obtain ⟨k0, hk0⟩ := hkCx_ty hC h7 (by omega)
    rw [h5] at hk0
    refine va_iald hx hb hC.2.1 hC.1 P.toNat k0 hws hk0 (hkI_in hk h2 h3) hde (hkS_pushE hC (hkOKi (by have := hkCx_ri hC h7 k h2 (by omega); rw [h6] at this; exact this)) hkCs2 ?_ hn)
    show Value.int (Int32.ofInt (g P k)) = _
    rw [hkI_cl hk, h6, show ((k.toNat : Nat) : Int) = k from by omega]
  · have hfl := hkOK_s (hkCx_k hC _ (List.mem_cons_of_mem _ List.mem_cons_self))
    have hk := hkOK_i (hkCx_k hC _ List.mem_cons_self)
    obtain ⟨L, xs, hX, hbl, hbA⟩ := hscr hfl
    obtain ⟨e1, e2, e3⟩ := hC.2.2.2.2.2.2.2.2.2.2.2.2.2 hfl L xs hX
    dsimp only at e1 e3
    have e4 := e3 k.toNat (by omega)
    rw [show ((k.toNat : Nat) : Int) = k from by omega] at e4
    refine va_sld (b := b) hx hb hX hbl hbA hC.2.2.2.1 (hkI_in hk h2 (by omega)) hde (hkS_pushE hC (hkOKi (by rw [e4]; exact hkRng_i _)) hkCs2 ?_ hn)
    show Value.int (Int32.ofInt (g (-1) k)) = _
    rw [hkI_cl hk, e4, hkI_of]
  · obtain ⟨h4, h5, h6⟩ := hkJK_inv h1 (by omega)
    obtain ⟨-, h7⟩ := hkOK_r (hkCx_k hC _ (List.mem_cons_of_mem _ List.mem_cons_self))
    have hk := hkOK_i (hkCx_k hC _ List.mem_cons_self)
    have hws := hkWs_get (adr := adr) (cA := cA) (g := g) h7
    rw [hkCell_l (by omega)] at hws
    obtain ⟨k0, hk0⟩ := hkCx_ty hC h7 (by omega)
    rw [h5] at hk0
    refine va_lald hx hb hC.2.1 hC.1 P.toNat k0 hws hk0 (hkI_in hk h2 h3) hde (hkS_pushE hC (hkOKl (by have := hkCx_rl hC h7 k h2 (by omega); rw [h6] at this; exact this)) hkCs2 ?_ hn)
    show Value.long (Int64.ofInt (g P k)) = _
    rw [hkI_cl hk, h6, show ((k.toNat : Nat) : Int) = k from by omega]
  · omega
  · obtain ⟨h4, h5, h6⟩ := hkJK_inv h1 (by omega)
    obtain ⟨-, h7⟩ := hkOK_r (hkCx_k hC _ (List.mem_cons_of_mem _ List.mem_cons_self))
    have hk := hkOK_i (hkCx_k hC _ List.mem_cons_self)
    have hws := hkWs_get (adr := adr) (cA := cA) (g := g) h7
    rw [hkCell_i (by omega)] at hws
    obtain ⟨k0, hk0⟩ := hkCx_ty hC h7 (by omega)
    rw [h5] at hk0
    refine va_zald hx hb hC.2.1 hC.1 P.toNat k0 hws hk0 (hkI_in hk h2 h3) hde (hkS_pushE hC (hkOKi (by have := hkCx_ri hC h7 k h2 (by omega); rw [h6] at this; exact this)) hkCs2 ?_ hn)
    show Value.int (Int32.ofInt (g P k)) = _
    rw [hkI_cl hk, h6, show ((k.toNat : Nat) : Int) = k from by omega]
  · omega
theorem hkAst_inv {kd tg pc' : Nat} (h : hkAst kd tg pc' ls st t g = some (.inl q)) : ∃ x k P st', st = (tg, x) :: (0, k) :: (2, P) :: st' ∧ hkJK P = kd ∧ (kd = 102 → x = 0 ∨ x = 1) ∧ 0 ≤ k ∧ k < (hkLn P.toNat : Int) ∧ q = (pc', ls, st', t, hkSet g P k x) := by
  unfold hkAst at h
  split at h
  · split at h
    · rename_i he
      subst he
      obtain ⟨⟨h1, h2, h3, h4⟩, h5⟩ := hkChk_inv h
      exact ⟨_, _, _, _, rfl, h1, h2, h3, h4, hkGo_inv h5⟩
    · cases h
  · cases h
theorem hkCs3 {v w u : hkV} {st' : List hkV} : ∀ z ∈ st', z ∈ v :: w :: u :: st' := fun _ h => List.mem_cons_of_mem _ (List.mem_cons_of_mem _ (List.mem_cons_of_mem _ h))
theorem hkUpdI {P : Nat} {P' k x : Int} (hP : (P : Int) = P') (h0 : 0 ≤ k) : upd (fun j => Int32.ofInt (g P j)) k.toNat (Int32.ofInt x) = fun j : Nat => Int32.ofInt (hkSet g P' k x P j) := by
  funext j
  unfold upd hkSet
  by_cases hj : j = k.toNat
  · rw [if_pos hj, if_pos ⟨hP, by omega⟩]
  · rw [if_neg hj, if_neg (by omega)]
theorem hkUpdL {P : Nat} {P' k x : Int} (hP : (P : Int) = P') (h0 : 0 ≤ k) : vp_updL (fun j => Int64.ofInt (g P j)) k.toNat (Int64.ofInt x) = fun j : Nat => Int64.ofInt (hkSet g P' k x P j) := by
  funext j
  unfold vp_updL hkSet
  by_cases hj : j = k.toNat
  · rw [if_pos hj, if_pos ⟨hP, by omega⟩]
  · rw [if_neg hj, if_neg (by omega)]
theorem hkS_ast (hF : hkFr p R s m args meth c y fl b A) (hC : hkCx dC dI s y fl b A adr0 t0 (pc, ls, st, t, g) H locs adr cA tys lsA) (hd : hkFetch y pc = some (i, n)) (hp : hkPx y i n (pc, ls, st, t, g) = some (.inl q)) (hn : hkNext p l e R s m args below meth c Q dC dI y fl b A adr0 t0 q)
    (hi : i = .iastore ∨ i = .lastore ∨ i = .bastore) : W p l e R s m args below meth c H locs (hkNX t - hkNX t0) (hkNS t - hkNS t0) Q (F0 m pc lsA (st.map (hkVal adr b))) := by
  obtain ⟨hx, hb, hr, hml, hown, hts, -⟩ := hF
  rcases hi with rfl | rfl | rfl <;> obtain ⟨rfl, hde⟩ := hkFetch_at hd rfl <;> simp only [hkPx] at hp <;> obtain ⟨x, k, P, st', rfl, h1, hbo, h2, h3, rfl⟩ := hkAst_inv hp <;> obtain ⟨h4, h5, h6⟩ := hkJK_inv h1 (by omega) <;> obtain ⟨-, h7⟩ := hkOK_r (hkCx_k hC _ (List.mem_cons_of_mem _ (List.mem_cons_of_mem _ List.mem_cons_self))) <;> have hk := hkOK_i (hkCx_k hC _ (List.mem_cons_of_mem _ List.mem_cons_self)) <;> have hws := hkWs_get (adr := adr) (cA := cA) (g := g) h7 <;> obtain ⟨k0, hk0⟩ := hkCx_ty hC h7 (by omega) <;> rw [h5] at hk0
  · have hxr := hkOK_i (hkCx_k hC _ List.mem_cons_self)
    rw [hkCell_i (by omega)] at hws
    refine va_iast (x := Int32.ofInt x) hx hb hC.2.1 hC.1 hC.2.2.1 hC.2.2.2.1 P.toNat k0 hws hk0 (hkI_in hk h2 h3) hde (fun H1 locs1 hP hD hS => ?_)
    have hset : (hkWs adr cA t g).set P.toNat (adr P.toNat, .inl (cA P.toNat, hkLn P.toNat, .inl (upd (fun j => Int32.ofInt (g P.toNat j)) (Int32.ofInt k).toNatClampNeg (Int32.ofInt x)))) = hkWs adr cA t (hkSet g P k x) := by
      refine hkWs_set h7 rfl ?_ (fun r hr hne => hkCell_row (hkSet_row (by omega)))
      rw [hkCell_i (by omega), hkI_cl hk, hkUpdI h6 h2]
    dsimp only at hP hD
    rw [hset] at hP hD
    refine hn H1 locs1 adr cA tys lsA (hkCx_mem hC hP hD hS (hkGOK_set hC.2.2.2.2.2.1 h4 h7 ?_) (fun r hr => hkSet_row (by omega)) hkCs3)
    rw [if_neg (by omega)]; exact hxr
  · have hxr := hkOK_l (hkCx_k hC _ List.mem_cons_self)
    rw [hkCell_l (by omega)] at hws
    refine va_last (x := Int64.ofInt x) hx hb hC.2.1 hC.1 hC.2.2.1 hC.2.2.2.1 P.toNat k0 hws hk0 (hkI_in hk h2 h3) hde (fun H1 locs1 hP hD hS => ?_)
    have hset : (hkWs adr cA t g).set P.toNat (adr P.toNat, .inl (cA P.toNat, hkLn P.toNat, .inr (.inl (vp_updL (fun j => Int64.ofInt (g P.toNat j)) (Int32.ofInt k).toNatClampNeg (Int64.ofInt x))))) = hkWs adr cA t (hkSet g P k x) := by
      refine hkWs_set h7 rfl ?_ (fun r hr hne => hkCell_row (hkSet_row (by omega)))
      rw [hkCell_l (by omega), hkI_cl hk, hkUpdL h6 h2]
    dsimp only at hP hD
    rw [hset] at hP hD
    refine hn H1 locs1 adr cA tys lsA (hkCx_mem hC hP hD hS (hkGOK_set hC.2.2.2.2.2.1 h4 h7 ?_) (fun r hr => hkSet_row (by omega)) hkCs3)
    rw [if_pos (by omega)]; exact hxr
  · have hxr := hkOK_i (hkCx_k hC _ List.mem_cons_self)
    have hnar : vp_nar .boolean (Int32.ofInt x) = Int32.ofInt x := by rcases hbo rfl with rfl | rfl <;> rfl
    rw [hkCell_i (by omega)] at hws
    refine va_zast (x := Int32.ofInt x) hx hb hC.2.1 hC.1 hC.2.2.1 hC.2.2.2.1 P.toNat k0 hws hk0 (hkI_in hk h2 h3) hde (fun H1 locs1 hP hD hS => ?_)
    have hset : (hkWs adr cA t g).set P.toNat (adr P.toNat, .inl (cA P.toNat, hkLn P.toNat, .inl (upd (fun j => Int32.ofInt (g P.toNat j)) (Int32.ofInt k).toNatClampNeg (vp_nar .boolean (Int32.ofInt x))))) = hkWs adr cA t (hkSet g P k x) := by
      refine hkWs_set h7 rfl ?_ (fun r hr hne => hkCell_row (hkSet_row (by omega)))
      rw [hkCell_i (by omega), hkI_cl hk, hnar, hkUpdI h6 h2]
    dsimp only at hP hD
    rw [hset] at hP hD
    refine hn H1 locs1 adr cA tys lsA (hkCx_mem hC hP hD hS (hkGOK_set hC.2.2.2.2.2.1 h4 h7 ?_) (fun r hr => hkSet_row (by omega)) hkCs3)
    rw [if_neg (by omega)]; exact hxr
theorem hkS_alen (hF : hkFr p R s m args meth c y fl b A) (hC : hkCx dC dI s y fl b A adr0 t0 (pc, ls, st, t, g) H locs adr cA tys lsA) (hd : hkFetch y pc = some (i, n)) (hp : hkPx y i n (pc, ls, st, t, g) = some (.inl q)) (hn : hkNext p l e R s m args below meth c Q dC dI y fl b A adr0 t0 q)
    (hi : i = .arraylength ∨ i = .aaload) : W p l e R s m args below meth c H locs (hkNX t - hkNX t0) (hkNS t - hkNS t0) Q (F0 m pc lsA (st.map (hkVal adr b))) := by
  obtain ⟨hx, hb, hr, hml, hown, hts, -, -, -, -, -, -, hscr⟩ := hF
  rcases hi with rfl | rfl <;> obtain ⟨rfl, hde⟩ := hkFetch_at hd rfl <;> simp only [hkPx] at hp <;> split at hp <;> first | (cases hp; done) | skip
  · rename_i P st'
    obtain ⟨⟨h1, h2⟩, h3⟩ := hkChk_inv hp
    obtain rfl := hkGo_inv h3
    obtain ⟨h4, h5, h6⟩ := hkJK_inv (k := hkJK P) rfl (by omega)
    obtain ⟨-, h7⟩ := hkOK_r (hkCx_k hC _ List.mem_cons_self)
    have h91 : P.toNat < 91 := Nat.lt_of_lt_of_le h7 (hkNX_le t)
    have hle := hkLn_le _ h91
    obtain ⟨k0, hk0⟩ := hkCx_ty hC h7 (by omega)
    have hws := hkWs_get (adr := adr) (cA := cA) (g := g) h7
    obtain ⟨w, hw⟩ : ∃ w : vp_A, hkCell adr cA t g P.toNat = .inl (cA P.toNat, w) ∧ w.1 = hkLn P.toNat := by
      rcases (show hkKd P.toNat = 101 ∨ (hkKd P.toNat = 100 ∨ hkKd P.toNat = 102) ∨ (hkKd P.toNat = 103 ∨ hkKd P.toNat = 104) by omega) with h | h | h
      · exact ⟨_, hkCell_l h, rfl⟩
      · exact ⟨_, hkCell_i h, rfl⟩
      · exact ⟨_, hkCell_q h, rfl⟩
    rw [hw.1] at hws
    refine va_alen (v := Int32.ofInt (hkLn P.toNat : Int)) hx hb hC.2.1 hC.1 P.toNat k0 hws hk0 ?_ hde (hkS_push hC (hkOKi ?_) hkCs1 hn)
    · rw [hw.2, Int32.ofInt_eq_ofNat]
    · unfold hkRng; omega
  · rename_i P st'
    obtain rfl := hkGo_inv hp
    have hfl := hkOK_s (hkCx_k hC _ List.mem_cons_self)
    obtain ⟨L, xs, hX, hbl, hbA⟩ := hscr hfl
    obtain ⟨e1, e2, e3⟩ := hC.2.2.2.2.2.2.2.2.2.2.2.2.2 hfl L xs hX
    dsimp only at e1 e3
    refine va_slen (b := b) hx hb hX hbl hbA hC.2.2.2.1 hde (hkS_pushE hC (hkOKi ?_) hkCs1 ?_ hn)
    · unfold hkRng; omega
    · show Value.int (Int32.ofInt (g (-2) 0)) = _
      rw [e1, Int32.ofInt_eq_ofNat]
  · rename_i k P st'
    obtain ⟨⟨h1, h2, h3, h4, h5⟩, h6⟩ := hkChk_inv hp
    obtain rfl := hkGo_inv h6
    obtain ⟨h7, h8, h9⟩ := hkJK_inv (k := hkJK P) rfl (by omega)
    obtain ⟨-, h10⟩ := hkOK_r (hkCx_k hC _ (List.mem_cons_of_mem _ List.mem_cons_self))
    have hk := hkOK_i (hkCx_k hC _ List.mem_cons_self)
    have hws := hkWs_get (adr := adr) (cA := cA) (g := g) h10
    rw [hkCell_q (by omega)] at hws
    obtain ⟨k0, hk0⟩ := hkCx_ty hC h10 (by omega)
    obtain ⟨C, hCn⟩ : ∃ C, hkAty (hkKd P.toNat) = .object C := by
      rcases (show hkKd P.toNat = 103 ∨ hkKd P.toNat = 104 by omega) with h | h <;> rw [h]
      · exact ⟨_, rfl⟩
      · exact ⟨_, rfl⟩
    rw [hCn] at hk0
    refine va_aldq hx hb hC.2.1 hC.1 P.toNat k0 hws hk0 (hkI_in hk h3 h4) hde (hkS_pushE hC (hkOKr (hkRF_lt h5 hC.2.2.2.2.2.2.2.2.2.2.2.1).1) hkCs2 ?_ hn)
    show Value.ref (adr (((hkRF P.toNat k.toNat : Nat) : Int)).toNat) = va_rf (if hkAT P.toNat (Int32.ofInt k).toNatClampNeg ≤ t then some (adr (hkRF P.toNat (Int32.ofInt k).toNatClampNeg)) else none)
    rw [hkI_cl hk, if_pos h5, Int.toNat_natCast]; rfl
theorem hkS_aast (hF : hkFr p R s m args meth c y fl b A) (hC : hkCx dC dI s y fl b A adr0 t0 (pc, ls, st, t, g) H locs adr cA tys lsA) (hd : hkFetch y pc = some (i, n)) (hp : hkPx y i n (pc, ls, st, t, g) = some (.inl q)) (hn : hkNext p l e R s m args below meth c Q dC dI y fl b A adr0 t0 q)
    (hi : i = .aastore) : W p l e R s m args below meth c H locs (hkNX t - hkNX t0) (hkNS t - hkNS t0) Q (F0 m pc lsA (st.map (hkVal adr b))) := by
  obtain ⟨hx, hb, hr, hml, hown, hts, -⟩ := hF
  subst hi
  obtain ⟨rfl, hde⟩ := hkFetch_at hd rfl
  simp only [hkPx] at hp
  split at hp <;> first | (cases hp; done) | skip
  rename_i z k P st'
  obtain ⟨⟨h1, h2, h3, h4⟩, h5⟩ := hkChk_inv hp
  obtain rfl := hkGo_inv h5
  obtain ⟨e1, e2, e3, e4, e5, e6, e7⟩ := hkEv1 h4
  have hk := hkOK_i (hkCx_k hC _ (List.mem_cons_of_mem _ List.mem_cons_self))
  obtain ⟨-, h10⟩ := hkOK_r (hkCx_k hC _ (List.mem_cons_of_mem _ (List.mem_cons_of_mem _ List.mem_cons_self)))
  obtain ⟨-, h11⟩ := hkOK_r (hkCx_k hC _ List.mem_cons_self)
  obtain ⟨kp, kz, hkp, hkz, hci, hobj⟩ : ∃ kp kz, hkJK P = kp ∧ hkJK z = kz ∧ ((kp = 103 ∧ kz = 7) ∨ (kp = 104 ∧ kz = 9)) ∧ hkAty kp = .object (hkOwnS kz) := by
    rcases h1 with ⟨a, b⟩ | ⟨a, b⟩
    · exact ⟨_, _, a, b, Or.inl ⟨rfl, rfl⟩, rfl⟩
    · exact ⟨_, _, a, b, Or.inr ⟨rfl, rfl⟩, rfl⟩
  obtain ⟨h7, h8, h9⟩ := hkJK_inv hkp (by omega)
  obtain ⟨z7, z8, z9⟩ := hkJK_inv hkz (by omega)
  have hws := hkWs_get (adr := adr) (cA := cA) (g := g) h10
  rw [hkCell_q (by omega)] at hws
  have hwz := hkWs_get (adr := adr) (cA := cA) (g := g) h11
  rw [hkCell_o (by omega), z8] at hwz
  obtain ⟨k0, hk0⟩ := hkCx_ty hC h10 (by omega)
  rw [h8, hobj] at hk0
  refine va_astq (v := adr z.toNat) hx hb hC.2.1 hC.1 hC.2.2.1 hC.2.2.2.1 P.toNat k0 z.toNat kz hws hk0 hwz (hkCl_ok (by omega)) (hkI_in hk h2 h3) hde (fun H1 locs1 hP hD hS => ?_)
  have hset : (hkWs adr cA t g).set P.toNat (adr P.toNat, .inl (cA P.toNat, hkLn P.toNat, .inr (.inr (.inr (.inr (va_up (fun j => if hkAT P.toNat j ≤ t then some (adr (hkRF P.toNat j)) else none) (Int32.ofInt k).toNatClampNeg (some (adr z.toNat)))))))) = hkWs adr cA (t + 1) g := by
    refine hkWs_set h10 e6 ?_ (fun r hr hne => hkCell_put h4 hne)
    rw [hkCell_q (by omega), hkI_cl hk]
    symm
    congr 7
    funext j
    have ha := hkAT_put (p := P.toNat) (k := j) h4
    unfold va_up
    by_cases hj : j = k.toNat
    · rw [if_pos hj, if_pos (by rw [ha]; exact Or.inr ⟨rfl, hj⟩), hj, e2]
    · rw [if_neg hj]
      dsimp only
      by_cases h : hkAT P.toNat j ≤ t
      · rw [if_pos h, if_pos (by omega)]
      · rw [if_neg h, if_neg (by rw [ha]; omega)]
  dsimp only at hP hD
  rw [hset] at hP hD
  have K := hn H1 locs1 adr cA tys lsA (hkCx_ev hC h4 hP hD hS hkCs3)
  simp only [e6, e7] at K
  exact K
end HKT
end
section
/-! what is made; copies; an object's own beginning -/
section HKT
variable {p : Program} {l : Launch} {e : Env} {R : Room} {s : State} {m : MethodId} {args : Array Value} {below : List Frame} {meth : Method} {c : Code} {Q : State → Prop}
variable {dC : Nat → ClassId} {dI : Nat → Nat → Nat} {y : Nat} {fl : Prop} {b : Nat} {A : Nat → Prop} {adr0 : Nat → Nat} {t0 : Nat}
variable {pc n : Nat} {ls st : List hkV} {t : Nat} {g : hkG} {H : Heap} {locs : List Loc} {adr : Nat → Nat} {cA : Nat → ClassId} {tys : List (ClassId × FieldType)} {lsA : Array Slot} {q : hkC} {i : Instr}
theorem hkAT_fresh {P k : Nat} (hP : hkNX t ≤ P) (ht : t ≤ 190) : ¬ hkAT P k ≤ t := fun h => by
  have := (hkRF_lt h ht).2.1
  omega
theorem hkEv_kd {P z w : Nat} (hE : hkEV[t]? = some (0, P, z, w)) : P < 91 := by
  obtain ⟨e1, e2, e3⟩ := hkEv0 hE
  have := hkNX_le (t + 1)
  omega
/-- the world with a new place, all of it at its first value -/
theorem hkCx_new {pc' : Nat} {st' : List hkV} {H1 : Heap} {P z w q0 : Nat} {x : va_E} {tys' : List (ClassId × FieldType)} {cN : ClassId} (hC : hkCx dC dI s y fl b A adr0 t0 (pc, ls, st, t, g) H locs adr cA tys lsA) (hE : hkEV[t]? = some (0, P, z, w))
    (hx : hkCell (fun r => if r = P then q0 else adr r) (fun r => if r = P then cN else cA r) (t + 1) g P = x)
    (hK : va_K (dC, dI) hkCl tys' s) (hty : (∃ l', tys' = tys ++ l') ∧ (100 ≤ hkKd P → ∃ k0 : Nat, tys'[k0]? = some (cN, hkAty (hkKd P))))
    (hP : va_P (dC, dI) hkCl (hkWs adr cA t g ++ [(q0, x)]) H1) (hD : va_D A (hkWs adr cA t g ++ [(q0, x)])) (hS : va_S A s.heap H1 locs) (h4 : ∀ v ∈ st', v ∈ st) :
    hkCx dC dI s y fl b A adr0 t0 (pc', ls, (2, (P : Int)) :: st', t + 1, g) H1 locs (fun r => if r = P then q0 else adr r) (fun r => if r = P then cN else cA r) tys' lsA ∧ hkVal (fun r => if r = P then q0 else adr r) b (2, (P : Int)) = .ref q0 ∧ st'.map (hkVal (fun r => if r = P then q0 else adr r) b) = st'.map (hkVal adr b) := by
  obtain ⟨e1, e2, e3⟩ := hkEv0 hE
  have hlt := hkEv_lt hE
  obtain ⟨a1, a2, a3, a4, a5, a6, a7, a8, a9, a10, a11, a12, a13, a14⟩ := hC
  simp only at a1 a3 a5 a6 a7 a8 a9 a10 a11 a12 a13 a14
  have hadr : ∀ r, r < hkNX t → (fun r => if r = P then q0 else adr r) r = adr r := fun r hr => by
    simp only; rw [if_neg (by omega)]
  have hcell : ∀ r, r < hkNX t → hkCell (fun r => if r = P then q0 else adr r) (fun r => if r = P then cN else cA r) (t + 1) g r = hkCell adr cA t g r := by
    intro r hr
    have h1 : ∀ j, (hkAT r j ≤ t + 1) = (hkAT r j ≤ t) := fun j => propext (hkAT_new hE)
    have h2 : ∀ j, hkAT r j ≤ t → (if hkRF r j = P then q0 else adr (hkRF r j)) = adr (hkRF r j) := fun j h => by
      rw [if_neg]
      have := (hkRF_lt h a12).1
      omega
    have h3 : hkFs (fun r => if r = P then q0 else adr r) (t + 1) g r = hkFs adr t g r := by
      unfold hkFs hkFv
      apply List.map_congr_left
      intro j _
      simp only [h1]
      by_cases hj : hkAT r j ≤ t
      · simp only [hj, if_true, h2 j hj]
      · simp only [hj, if_false]
    have h4 : (fun j => if hkAT r j ≤ t + 1 then some (if hkRF r j = P then q0 else adr (hkRF r j)) else none) = (fun j => if hkAT r j ≤ t then some (adr (hkRF r j)) else none) := by
      funext j
      simp only [h1]
      by_cases hj : hkAT r j ≤ t
      · simp only [hj, if_true, h2 j hj]
      · simp only [hj, if_false]
    have h5 : (if r = P then cN else cA r) = cA r := if_neg (by omega)
    unfold hkCell
    simp only [h3, h4, h5]
  have hws : hkWs adr cA t g ++ [(q0, x)] = hkWs (fun r => if r = P then q0 else adr r) (fun r => if r = P then cN else cA r) (t + 1) g :=
    hkWs_push e2 hadr (by show (if hkNX t = P then q0 else adr (hkNX t)) = q0; rw [if_pos e1.symm]) (by rw [← e1]; exact hx) hcell
  rw [hws] at hP hD
  have hmono : ∀ {v : hkV}, hkOK fl t v → hkOK fl (t + 1) v := fun h => hkOK_mono h (Nat.le_succ t)
  refine ⟨⟨hP, hK, hD, hS, ?_, ?_, ?_, a8, ?_, ?_, Nat.le_succ_of_le a11, ?_, ?_, a14⟩, ?_, ?_⟩
  · intro r hr h100
    simp only at hr ⊢
    rw [e2] at hr
    by_cases h : r = P
    · rw [if_pos h, h]
      exact hty.2 (h ▸ h100)
    · rw [if_neg h]
      obtain ⟨k0, hk0⟩ := a5 r (by omega) h100
      obtain ⟨l', hl'⟩ := hty.1
      refine ⟨k0, ?_⟩
      rw [hl', List.getElem?_append_left (List.getElem?_eq_some_iff.mp hk0).1]
      exact hk0
  · refine ⟨fun r k hr => ?_, fun r k hr => ?_⟩
    · rw [e2] at hr
      by_cases h : r < hkNX t
      · exact a6.1 r k h
      · show if hkKd r = 101 then hkRngL (g r k) else hkRng (g r k)
        rw [a6.2 r k (by omega)]
        split
        · unfold hkRngL; omega
        · exact hkRng0
    · rw [e2] at hr
      exact a6.2 r k (by omega)
  · exact hkLv_congr a7 a9 hadr
  · intro v hv
    rcases a9 v hv with h | h
    · exact Or.inl (hmono h)
    · exact Or.inr h
  · intro v hv
    rcases List.mem_cons.mp hv with rfl | hv
    · refine hkOKr ?_
      show P < hkNX (t + 1)
      omega
    · exact hmono (a10 v (h4 v hv))
  · simp only; omega
  · intro r hr
    have := hkNX_mono (t := t0) (u := t) a11
    rw [hadr r (by omega)]
    exact a13 r hr
  · show Value.ref ((fun r => if r = P then q0 else adr r) ((P : Int)).toNat) = _
    simp
  · apply List.map_congr_left
    intro v hv
    exact hkVal_congr (Or.inl (a10 v (h4 v hv))) hadr
theorem hkNew_inv {kd pc' : Nat} {x : Option Int} (h : hkNew kd pc' x ls st t g = some (.inl q)) : ∃ P z w, hkEV[t]? = some (0, P, z, w) ∧ hkKd P = kd ∧ (∀ v ∈ x, v = (hkLn P : Int)) ∧ q = (pc', ls, (2, (P : Int)) :: st, t + 1, g) := by
  unfold hkNew at h
  split at h
  · rename_i P z w hE
    obtain ⟨⟨h1, h2⟩, h3⟩ := hkChk_inv h
    exact ⟨P, z, w, hE, h1, h2, hkGo_inv h3⟩
  · cases h
theorem hkNext_new {P z w q0 : Nat} {x : va_E} {tys' : List (ClassId × FieldType)} {cN : ClassId} {pc' : Nat} {st' : List hkV} {H1 : Heap} (hC : hkCx dC dI s y fl b A adr0 t0 (pc, ls, st, t, g) H locs adr cA tys lsA) (hE : hkEV[t]? = some (0, P, z, w))
    (hx : hkCell (fun r => if r = P then q0 else adr r) (fun r => if r = P then cN else cA r) (t + 1) g P = x)
    (hK : va_K (dC, dI) hkCl tys' s) (hty : (∃ l', tys' = tys ++ l') ∧ (100 ≤ hkKd P → ∃ k0 : Nat, tys'[k0]? = some (cN, hkAty (hkKd P))))
    (hP : va_P (dC, dI) hkCl (hkWs adr cA t g ++ [(q0, x)]) H1) (hD : va_D A (hkWs adr cA t g ++ [(q0, x)])) (hS : va_S A s.heap H1 locs) (h4 : ∀ v ∈ st', v ∈ st)
    (hn : hkNext p l e R s m args below meth c Q dC dI y fl b A adr0 t0 (pc', ls, (2, (P : Int)) :: st', t + 1, g)) :
    W p l e R s m args below meth c H1 locs (hkNX t - hkNX t0 + 1) (hkNS t - hkNS t0 + hkLn P) Q (F0 m pc' lsA (.ref q0 :: st'.map (hkVal adr b))) := by
  obtain ⟨k1, k2, k3⟩ := hkCx_new (pc' := pc') hC hE hx hK hty hP hD hS h4
  have K := hn _ _ _ _ _ _ k1
  simp only [List.map_cons, k2, k3] at K
  obtain ⟨e1, e2, e3⟩ := hkEv0 hE
  have h1 := hkNX_mono (t := t0) (u := t) hC.2.2.2.2.2.2.2.2.2.2.1
  have h2 := hkNS_mono (t := t0) (u := t) hC.2.2.2.2.2.2.2.2.2.2.1
  rw [show hkNX t - hkNX t0 + 1 = hkNX (t + 1) - hkNX t0 from by omega, show hkNS t - hkNS t0 + hkLn P = hkNS (t + 1) - hkNS t0 from by omega]
  exact K
theorem hkRoom_new {P z w : Nat} (hC : hkCx dC dI s y fl b A adr0 t0 (pc, ls, st, t, g) H locs adr cA tys lsA) (hE : hkEV[t]? = some (0, P, z, w)) (hroom : hkNX (t + 1) - hkNX t0 ≤ R.cells ∧ hkNS (t + 1) - hkNS t0 ≤ R.slots) : hkNX t - hkNX t0 + 1 ≤ R.cells ∧ hkNS t - hkNS t0 + hkLn P ≤ R.slots := by
  obtain ⟨e1, e2, e3⟩ := hkEv0 hE
  have h1 := hkNX_mono (t := t0) (u := t) hC.2.2.2.2.2.2.2.2.2.2.1
  have h2 := hkNS_mono (t := t0) (u := t) hC.2.2.2.2.2.2.2.2.2.2.1
  omega
theorem hkS_new (hF : hkFr p R s m args meth c y fl b A) (hC : hkCx dC dI s y fl b A adr0 t0 (pc, ls, st, t, g) H locs adr cA tys lsA) (hd : hkFetch y pc = some (i, n)) (hp : hkPx y i n (pc, ls, st, t, g) = some (.inl q)) (hn : hkNext p l e R s m args below meth c Q dC dI y fl b A adr0 t0 q) (hroom : hkNX q.2.2.2.1 - hkNX t0 ≤ R.cells ∧ hkNS q.2.2.2.1 - hkNS t0 ≤ R.slots)
    (hi : (∃ x, i = .new x) ∨ (∃ x, i = .newarray x) ∨ (∃ x, i = .anewarray x)) : W p l e R s m args below meth c H locs (hkNX t - hkNX t0) (hkNS t - hkNS t0) Q (F0 m pc lsA (st.map (hkVal adr b))) := by
  obtain ⟨hx, hb, hr, hml, hown, hts, hnm, hlk, hnst, hA, -⟩ := hF
  have ht190 : t ≤ 190 := hC.2.2.2.2.2.2.2.2.2.2.2.1
  have hzero : ∀ P z w, hkEV[t]? = some (0, P, z, w) → ∀ k : Nat, g P k = 0 := fun P z w hE k => hC.2.2.2.2.2.1.2 P k (by have := (hkEv0 hE).1; simp only; omega)
  rcases hi with ⟨idx, rfl⟩ | ⟨ty, rfl⟩ | ⟨idx, rfl⟩ <;> obtain ⟨rfl, hde⟩ := hkFetch_at hd rfl <;> simp only [hkPx] at hp <;> split at hp <;> first | (cases hp; done) | skip
  · rename_i ci hcl
    split at hp <;> first | (cases hp; done) | skip
    rename_i hci
    obtain ⟨P, z, w, hE, h1, -, rfl⟩ := hkNew_inv hp
    have hg := hzero P z w hE
    have h91 := hkEv_kd hE
    obtain ⟨r1, r2⟩ := hkRoom_new hC hE hroom
    have hln : hkLn P = hkNF ci := by rw [hkNF_ln h91 (by omega), h1]
    rw [hln] at r2
    have hfs : hkFs adr (t + 1) g P = (List.range (hkLn P)).map (fun k => if hkFT ci k = 2 then Value.null else .int 0) := by
      unfold hkFs hkFv
      apply List.map_congr_left
      intro k _
      rw [h1, hg k]
      have hna : ¬ hkAT P k ≤ t + 1 := by
        rw [hkAT_new hE]; exact hkAT_fresh (by have := (hkEv0 hE).1; omega) ht190
      rw [if_neg hna]
      rfl
    have hfs' : ∀ adr' : Nat → Nat, hkFs adr' (t + 1) g P = hkFs adr (t + 1) g P := by
      intro adr'
      unfold hkFs hkFv
      apply List.map_congr_left
      intro k _
      have hna : ¬ hkAT P k ≤ t + 1 := by
        rw [hkAT_new hE]; exact hkAT_fresh (by have := (hkEv0 hE).1; omega) ht190
      rw [if_neg hna, if_neg hna]
    refine va_new (ci := ci) (fs := hkFs adr (t + 1) g P) hx hb hts (hkWs_gt hci) (hkYY ci) (hkYok_ok hci) hown (hts _ (hkCls_ok hcl)) (hts _ (hkIns_w ci hci).1) (hts _ (hkIns_w ci hci).2) hC.2.1 hC.1 hC.2.2.1 hC.2.2.2.1 hA (hkCl_ok hci) ?_ r1 r2 hde (fun q0 H1 hP hD hS => ?_)
    · intro j hj
      unfold vp_V
      rw [hfs, List.getD_eq_getElem?_getD, List.getElem?_map, List.getElem?_range (by omega)]
      show _ = if hkFT ci j = 2 then Value.null else .int 0
      have hty := hkTyAll ci hci j hj
      unfold hkTyOk at hty
      split at hty <;> first | (rename_i e1 e2 e3 e4; rw [e1, e2]; rfl) | cases hty
    · have K := hkNext_new (p := p) (l := l) (e := e) (R := R) (m := m) (args := args) (below := below) (meth := meth) (c := c) (Q := Q) (cN := 0) (q0 := q0) (st' := st) (x := .inr (ci, hkFs adr (t + 1) g P)) hC hE (by rw [hkCell_o (by omega), h1, hfs']) hC.2.1 ⟨⟨[], by simp⟩, fun h => by omega⟩ hP hD hS (fun _ h => h) hn
      rw [hln] at K
      exact K
  · rename_i x st'
    split at hp <;> first | (cases hp; done) | skip
    rename_i hty
    obtain ⟨P, z, w, hE, h1, h2, rfl⟩ := hkNew_inv hp
    have hg := hzero P z w hE
    have h91 := hkEv_kd hE
    have hle := hkLn_le _ h91
    obtain ⟨r1, r2⟩ := hkRoom_new hC hE hroom
    have hxr := hkOK_i (hkCx_k hC _ List.mem_cons_self)
    have hxv := h2 x rfl
    have hneg : ¬ Int32.ofInt x < 0 := by
      rw [show (0 : Int32) = Int32.ofInt 0 from rfl, hkI_lt hxr hkRng0]; omega
    have hcl : (Int32.ofInt x).toNatClampNeg = hkLn P := by rw [hkI_cl hxr]; omega
    cases ty <;> (first | (exfalso; revert hty; decide) | skip)
    all_goals first
      | (refine va_newa (atype := .boolean) (ty := .boolean) (a0 := (hkLn P, .inl (fun _ => 0))) hx hb (hts _ hkArr_bool) rfl hC.2.1 hC.1 hC.2.2.1 hC.2.2.2.1 hA (fun cN => rfl) hneg hcl (by simp only [componentBytes]; omega) r1 r2 hde (fun q0 cN H1 hK hP hD hS => ?_)
         refine hkNext_new (cN := cN) hC hE ?_ hK ⟨⟨_, rfl⟩, fun _ => ⟨tys.length, by rw [h1]; simp; rfl⟩⟩ hP hD hS hkCs1 hn
         rw [hkCell_i (Or.inr h1), if_pos rfl]
         congr 4
         funext j; rw [hg j]; rfl)
      | (refine va_newa (atype := .int) (ty := .int) (a0 := (hkLn P, .inl (fun _ => 0))) hx hb (hts _ hkArr_int) rfl hC.2.1 hC.1 hC.2.2.1 hC.2.2.2.1 hA (fun cN => rfl) hneg hcl (by simp only [componentBytes]; omega) r1 r2 hde (fun q0 cN H1 hK hP hD hS => ?_)
         refine hkNext_new (cN := cN) hC hE ?_ hK ⟨⟨_, rfl⟩, fun _ => ⟨tys.length, by rw [h1]; simp; rfl⟩⟩ hP hD hS hkCs1 hn
         rw [hkCell_i (Or.inl h1), if_pos rfl]
         congr 4
         funext j; rw [hg j]; rfl)
      | (refine va_newa (atype := .long) (ty := .long) (a0 := (hkLn P, .inr (.inl (fun _ => 0)))) hx hb (hts _ hkArr_long) rfl hC.2.1 hC.1 hC.2.2.1 hC.2.2.2.1 hA (fun cN => rfl) hneg hcl (by simp only [componentBytes]; omega) r1 r2 hde (fun q0 cN H1 hK hP hD hS => ?_)
         refine hkNext_new (cN := cN) hC hE ?_ hK ⟨⟨_, rfl⟩, fun _ => ⟨tys.length, by rw [h1]; simp; rfl⟩⟩ hP hD hS hkCs1 hn
         rw [hkCell_l h1, if_pos rfl]
         congr 5
         funext j; rw [hg j]; rfl)
  all_goals
    rename_i x st' hcls
    obtain ⟨P, z, w, hE, h1, h2, rfl⟩ := hkNew_inv hp
    have hg := hzero P z w hE
    have h91 := hkEv_kd hE
    have hle := hkLn_le _ h91
    obtain ⟨r1, r2⟩ := hkRoom_new hC hE hroom
    have hxr := hkOK_i (hkCx_k hC _ List.mem_cons_self)
    have hxv := h2 x rfl
    have hneg : ¬ Int32.ofInt x < 0 := by
      rw [show (0 : Int32) = Int32.ofInt 0 from rfl, hkI_lt hxr hkRng0]; omega
    have hcl : (Int32.ofInt x).toNatClampNeg = hkLn P := by rw [hkI_cl hxr]; omega
    have hna : ∀ k, ¬ hkAT P k ≤ t + 1 := fun k => by
      rw [hkAT_new hE]; exact hkAT_fresh (by have := (hkEv0 hE).1; omega) ht190
    refine va_newq hx hb hown (hts _ (hkCls_ok hcls)) (by first | exact hnst.2.1 | exact hnst.2.2) hC.2.1 hC.1 hC.2.2.1 hC.2.2.2.1 hA hneg hcl (by omega) r1 r2 hde (fun q0 cN H1 hK hP hD hS => ?_)
    refine hkNext_new (cN := cN) hC hE ?_ hK ⟨⟨_, rfl⟩, fun _ => ⟨tys.length, by rw [h1]; simp; rfl⟩⟩ hP hD hS hkCs1 hn
    rw [hkCell_q (by omega), if_pos rfl]
    congr 7
    funext j; rw [if_neg (hna j)]
end HKT
end
section
/-! copies, an object's own beginning; every instruction (by program: wip/whole/gen_calls.py) -/
set_option maxRecDepth 100000 in
theorem hkCT5_w : ∀ q ∈ hkCT5, Cond.methodLink (hkOwnS q.1) q.2.1 arraycopyName ∈ lw_tbl := hkMapI (ix := fun q => q.2.2.2.headD 0) (by rfl)
theorem hkAC_nat : Cond.native arraycopyName ∈ hkGt := hkGt_i (i := 112) rfl rfl
theorem hkAC_st : Cond.static arraycopyName ∈ hkGt := hkGt_i (i := 111) rfl rfl
theorem hkAC_ini : Cond.initialized "java/lang/System" ∈ hkGt := hkGt_i (i := 65) rfl rfl
set_option maxRecDepth 100000 in
theorem hkCT4_w : ∀ q ∈ hkCT4, Cond.methodLink (hkOwnS q.1) q.2.1 Lib.objectInit ∈ lw_tbl := hkMapI (ix := fun q => q.2.2.2.headD 0) (by rfl)
theorem hkOI_i : Cond.instanceMethod Lib.objectInit ∈ hkGt := hkGt_i (i := 83) rfl rfl
theorem hkOI_c : Cond.code Lib.objectInit ⟨#[0xb1]⟩ 1 none ∈ hkGt := hkGt_i (i := 84) rfl rfl
theorem hkFindM {l : List (Nat × Nat × Nat × List Nat)} {own idx r : Nat} (h : hkFind l own idx = some r) : ∃ w, (own, idx, r, w) ∈ l := by
  unfold hkFind at h
  obtain ⟨q, h1, h2, h3⟩ := hkFind_inv h
  simp only [Bool.and_eq_true, beq_iff_eq] at h2
  obtain ⟨e1, e2⟩ := h2
  exact ⟨q.2.2.2, by rw [← e1, ← e2, ← h3]; exact h1⟩
theorem hkInv_ni {y' pc : Nat} {ls st : List hkV} {q : hkC} (h : hkInv y' pc ls st = some (.inl q)) : False := by
  unfold hkInv at h
  split at h
  · split at h <;> simp at h
  · cases h
theorem hkInvV_ni {y' pc : Nat} {ls st : List hkV} {q : hkC} (h : hkInvV y' pc ls st = some (.inl q)) : False := by
  unfold hkInvV at h
  split at h
  · obtain ⟨-, h⟩ := hkChk_inv h
    split at h <;> simp at h
  · cases h
theorem hkCats (adr : Nat → Nat) (b : Nat) (st : List hkV) : ((st.map (hkVal adr b)).map fun v => v.category) = st.map hkCat := by
  rw [List.map_map]
  apply List.map_congr_left
  intro v _
  exact hkCat_val adr b v
section HKT
variable {p : Program} {l : Launch} {e : Env} {R : Room} {s : State} {m : MethodId} {args : Array Value} {below : List Frame} {meth : Method} {c : Code} {Q : State → Prop}
variable {dC : Nat → ClassId} {dI : Nat → Nat → Nat} {y : Nat} {fl : Prop} {b : Nat} {A : Nat → Prop} {adr0 : Nat → Nat} {t0 : Nat}
variable {pc n : Nat} {ls st : List hkV} {t : Nat} {g : hkG} {H : Heap} {locs : List Loc} {adr : Nat → Nat} {cA : Nat → ClassId} {tys : List (ClassId × FieldType)} {lsA : Array Slot} {q : hkC} {i : Instr}
theorem hkCpyI {P P' : Nat} {x x' : Int} {k j n : Int} (h1 : (P : Int) = x) (h2 : (P' : Int) = x') (hk : 0 ≤ k) (hj : 0 ≤ j) (hn : 0 ≤ n) : va_cpy (fun r : Nat => Int32.ofInt (g P r)) (fun r : Nat => Int32.ofInt (g P' r)) k.toNat j.toNat n.toNat = fun r : Nat => Int32.ofInt (hkCpy g x k x' j n P' r) := by
  funext r
  unfold va_cpy hkCpy
  by_cases h : j.toNat ≤ r ∧ r < j.toNat + n.toNat
  · rw [if_pos h, if_pos ⟨h2, by omega, by omega⟩, h1]
    dsimp only
    rw [show ((k.toNat + (r - j.toNat) : Nat) : Int) = k + ((r : Int) - j) from by omega]
  · rw [if_neg h, if_neg (by omega)]
theorem hkS_copy (hF : hkFr p R s m args meth c y fl b A) (hC : hkCx dC dI s y fl b A adr0 t0 (pc, ls, st, t, g) H locs adr cA tys lsA) (hd : hkFetch y pc = some (i, n)) (hp : hkPx y i n (pc, ls, st, t, g) = some (.inl q)) (hn : hkNext p l e R s m args below meth c Q dC dI y fl b A adr0 t0 q)
    (hi : ∃ x, i = .invokestatic x) : W p l e R s m args below meth c H locs (hkNX t - hkNX t0) (hkNS t - hkNS t0) Q (F0 m pc lsA (st.map (hkVal adr b))) := by
  obtain ⟨hx, hb, hr, hml, hown, hts, -, -, -, -, hfr, hlo, -⟩ := hF
  obtain ⟨idx, rfl⟩ := hi
  obtain ⟨rfl, hde⟩ := hkFetch_at hd rfl
  simp only [hkPx] at hp
  split at hp
  · exact (hkInv_ni hp).elim
  · split at hp <;> first | (cases hp; done) | skip
    rename_i r k j Q' i' P st' hfi
    obtain ⟨⟨h1, h2, h3, h4, h5, h6, h7⟩, h8⟩ := hkChk_inv hp
    split at h8 <;> first | (cases h8; done) | skip
    rename_i hcat
    obtain rfl := hkGo_inv h8
    obtain ⟨w, hw⟩ := hkFindM hfi
    obtain ⟨p1, p2, p3⟩ := hkJK_inv h1 (by omega)
    obtain ⟨q1, q2, q3⟩ := hkJK_inv h2 (by omega)
    have mem0 : ∀ v ∈ ((0, k) :: (0, j) :: (2, Q') :: (0, i') :: (2, P) :: st' : List hkV), hkOK fl t v := hkCx_k hC
    have hk := hkOK_i (mem0 (0, k) (by simp))
    have hj := hkOK_i (mem0 (0, j) (by simp))
    have hi' := hkOK_i (mem0 (0, i') (by simp))
    obtain ⟨-, hP⟩ := hkOK_r (mem0 (2, P) (by simp))
    obtain ⟨-, hQ⟩ := hkOK_r (mem0 (2, Q') (by simp))
    have hwP := hkWs_get (adr := adr) (cA := cA) (g := g) hP
    rw [hkCell_i (by omega)] at hwP
    have hwQ := hkWs_get (adr := adr) (cA := cA) (g := g) hQ
    rw [hkCell_i (by omega)] at hwQ
    obtain ⟨k0, hk0⟩ := hkCx_ty hC hP (by omega)
    rw [p2] at hk0
    obtain ⟨k1, hk1⟩ := hkCx_ty hC hQ (by omega)
    rw [q2] at hk1
    have hlv := hC.2.2.2.2.2.2.1
    have neg : ∀ {z : Int}, hkRng z → 0 ≤ z → ¬ Int32.ofInt z < 0 := fun hz h0 h => by
      rw [show (0 : Int32) = Int32.ofInt 0 from rfl, hkI_lt hz hkRng0] at h; omega
    refine va_copyi (ty := .int) (sp := Int32.ofInt i') (dp := Int32.ofInt j) (n := Int32.ofInt k) hx hb (by rw [hml]; exact hlv.1.symm) hown (hts _ (hkGt_of (hkCT5_w _ hw) rfl)) (hts _ hkAC_nat) (hts _ hkAC_st) (hts _ hkAC_ini) hC.2.1 hC.1 hC.2.2.1 hC.2.2.2.1 P.toNat Q'.toNat k0 k1 hwP hwQ hk0 hk1 rfl (neg hi' h3) (neg hj h4) (neg hk h5) ?_ ?_ (fun _ _ => rfl) hfr ?_ hde (fun H1 locs1 hP' hD' hS' => ?_)
    · rw [hkI_cl hi', hkI_cl hk]; omega
    · rw [hkI_cl hj, hkI_cl hk]; omega
    · rw [hkCats]
      have : nativeFrameWords "java/lang/System" "arraycopy" 5 = 7 := rfl
      omega
    · have hset : (hkWs adr cA t g).set Q'.toNat (adr Q'.toNat, .inl (cA Q'.toNat, hkLn Q'.toNat, .inl (va_cpy (fun j => Int32.ofInt (g P.toNat j)) (fun j => Int32.ofInt (g Q'.toNat j)) (Int32.ofInt i').toNatClampNeg (Int32.ofInt j).toNatClampNeg (Int32.ofInt k).toNatClampNeg))) = hkWs adr cA t (hkCpy g P i' Q' j k) := by
        refine hkWs_set hQ rfl ?_ (fun r hr hne => hkCell_row ?_)
        · rw [hkCell_i (by omega), hkI_cl hi', hkI_cl hj, hkI_cl hk, hkCpyI p3 q3 h3 h4 h5]
        · funext z
          unfold hkCpy
          rw [if_neg (by omega)]
      dsimp only at hP' hD'
      rw [hset] at hP' hD'
      have hg := hC.2.2.2.2.2.1
      refine hn H1 locs1 adr cA tys lsA (hkCx_mem hC hP' hD' hS' ⟨fun r z hr => ?_, fun r z hr => ?_⟩ (fun r hr => ?_) (fun v hv => by simp only [List.mem_cons]; exact Or.inr (Or.inr (Or.inr (Or.inr (Or.inr hv))))))
      · unfold hkCpy
        by_cases h : (r : Int) = Q' ∧ j ≤ (z : Int) ∧ (z : Int) < j + k
        · rw [if_pos h, if_neg (by rw [show r = Q'.toNat from by omega]; omega)]
          have := hkCx_ri hC hP (i' + ((z : Int) - j)) (by omega) (by omega)
          rw [p3] at this
          exact this
        · rw [if_neg h]; exact hg.1 r z hr
      · unfold hkCpy
        rw [if_neg (by omega)]
        exact hg.2 r z hr
      · funext z
        unfold hkCpy
        rw [if_neg (by omega)]
theorem hkS_obj (hF : hkFr p R s m args meth c y fl b A) (hC : hkCx dC dI s y fl b A adr0 t0 (pc, ls, st, t, g) H locs adr cA tys lsA) (hd : hkFetch y pc = some (i, n)) (hp : hkPx y i n (pc, ls, st, t, g) = some (.inl q)) (hn : hkNext p l e R s m args below meth c Q dC dI y fl b A adr0 t0 q)
    (hi : ∃ x, i = .invokespecial x) : W p l e R s m args below meth c H locs (hkNX t - hkNX t0) (hkNS t - hkNS t0) Q (F0 m pc lsA (st.map (hkVal adr b))) := by
  obtain ⟨hx, hb, hr, hml, hown, hts, -, -, -, -, hfr, hlo, -⟩ := hF
  obtain ⟨idx, rfl⟩ := hi
  obtain ⟨rfl, hde⟩ := hkFetch_at hd rfl
  simp only [hkPx] at hp
  split at hp
  · exact (hkInv_ni hp).elim
  · split at hp
    · exact (hkInv_ni hp).elim
    · split at hp <;> first | (cases hp; done) | skip
      rename_i r P st' hfi
      split at hp <;> first | (cases hp; done) | skip
      rename_i hcat
      obtain rfl := hkGo_inv hp
      obtain ⟨w, hw⟩ := hkFindM hfi
      have hlv := hC.2.2.2.2.2.2.1
      have hroom := lv_room (m := m) (pc := pc) (ls := lsA) (rest := (st'.map (hkVal adr b))) (st := st'.map (hkVal adr b)) (by rw [hkCats]; exact hcat)
      refine W.objInit (a := adr P.toNat) (rest := st'.map (hkVal adr b)) hx hb hown (hts _ (hkGt_of (hkCT4_w _ hw) rfl)) (hts _ hkOI_i) (hts _ hkOI_c) rfl (by rw [hml]; exact hlv.1) rfl hde hfr ?_ ?_
      · show 2 * (F0 m pc lsA (st'.map (hkVal adr b))).monitorRoom + _ + 12 ≤ R.locals
        omega
      · exact hkS_on hC hkCs1 hn
theorem hkStep (hF : hkFr p R s m args meth c y fl b A) (hC : hkCx dC dI s y fl b A adr0 t0 (pc, ls, st, t, g) H locs adr cA tys lsA) (hd : hkFetch y pc = some (i, n)) (hp : hkPx y i n (pc, ls, st, t, g) = some (.inl q)) (hn : hkNext p l e R s m args below meth c Q dC dI y fl b A adr0 t0 q) (hroom : hkNX q.2.2.2.1 - hkNX t0 ≤ R.cells ∧ hkNS q.2.2.2.1 - hkNS t0 ≤ R.slots) : W p l e R s m args below meth c H locs (hkNX t - hkNX t0) (hkNS t - hkNS t0) Q (F0 m pc lsA (st.map (hkVal adr b))) := by
  cases i <;> first
    | (simp only [hkPx] at hp; cases hp; done)
    | (refine hkS_const hF hC hd hp hn ?_; simp; done)
    | (refine hkS_load hF hC hd hp hn ?_; simp; done)
    | (refine hkS_store hF hC hd hp hn ?_; simp; done)
    | (refine hkS_bin hF hC hd hp hn ?_; simp; done)
    | (refine hkS_un hF hC hd hp hn ?_; simp; done)
    | (refine hkS_binL hF hC hd hp hn ?_; simp; done)
    | (refine hkS_div hF hC hd hp hn ?_; simp; done)
    | (refine hkS_if hF hC hd hp hn ?_; exact ⟨_, _, rfl⟩)
    | (refine hkS_icmp hF hC hd hp hn ?_; exact ⟨_, _, rfl⟩)
    | (refine hkS_goto hF hC hd hp hn ?_; simp; done)
    | (refine hkS_getf hF hC hd hp hn ?_; exact ⟨_, rfl⟩)
    | (refine hkS_putf hF hC hd hp hn ?_; exact ⟨_, rfl⟩)
    | (refine hkS_ald hF hC hd hp hn ?_; simp; done)
    | (refine hkS_ast hF hC hd hp hn ?_; simp; done)
    | (refine hkS_alen hF hC hd hp hn ?_; simp; done)
    | (refine hkS_aast hF hC hd hp hn ?_; exact rfl)
    | (refine hkS_new hF hC hd hp hn hroom ?_; simp; done)
    | (refine hkS_copy hF hC hd hp hn ?_; exact ⟨_, rfl⟩)
    | (refine hkS_obj hF hC hd hp hn ?_; exact ⟨_, rfl⟩)
    | (simp only [hkPx] at hp; split at hp <;> first | (cases hp; done) | (exact (hkInvV_ni hp).elim))
    | (simp only [hkPx] at hp; split at hp <;> first | (cases hp; done) | (split at hp <;> first | (cases hp; done) | (split at hp <;> first | (cases hp; done) | (obtain ⟨-, hp⟩ := hkChk_inv hp; cases hp))))
end HKT
end
section
/-! a run of the pure machine is a run of the machine (by program: wip/whole/gen_main.py) -/
theorem hkMX {l : List hkMT} {ixs : List Nat} (h : ixs.map (fun i => lw_tbl[i]?) = l.map (fun q => some (hkCW q))) : ∀ q ∈ l, hkCW q ∈ lw_tbl := by
  intro q hq
  have h2 : some (hkCW q) ∈ l.map (fun q => some (hkCW q)) := List.mem_map.mpr ⟨q, hq, rfl⟩
  rw [← h] at h2
  obtain ⟨i, _, hi⟩ := List.mem_map.mp h2
  exact List.mem_of_getElem? hi
theorem hkMs_get {y : Nat} (h : y < hkNM) : hkMs[y]? = some (hkM y) := by
  unfold hkM
  have hl : hkMs.length = hkNM := by decide +kernel
  rw [List.getD_eq_getElem?_getD, List.getElem?_eq_getElem (by omega)]
  rfl
set_option maxRecDepth 100000 in
theorem hkMs_split : hkMs.take 184 = hkMs0 ++ (hkMs1 ++ (hkMs2 ++ (hkMs3 ++ hkMs4.take 24))) := by rfl
theorem hkCode_w {y : Nat} (h : y < 184) : Cond.code (hkN y) (hkB y) (hkX y) (hkR y) ∈ lw_tbl := by
  have h1 : (hkMs.take 184)[y]? = some (hkM y) := by rw [List.getElem?_take_of_lt h]; exact hkMs_get (by show y < 185; omega)
  have h2 := List.mem_of_getElem? h1
  rw [hkMs_split] at h2
  simp only [List.mem_append] at h2
  show hkCW (hkM y) ∈ lw_tbl
  rcases h2 with h2 | h2 | h2 | h2 | h2
  · exact hkMX hkCWs0 _ h2
  · exact hkMX hkCWs1 _ h2
  · exact hkMX hkCWs2 _ h2
  · exact hkMX hkCWs3 _ h2
  · exact hkMX hkCWs4 _ h2
def hkWd (l : List Nat) : Nat := (l.map (fun v => if v = 1 then 2 else 1)).sum
def hkMOk (y : Nat) : Bool := plainFor (hkN y) && (decide ((hkN y).cls = hkOwnS (hkOwn y)) && (decide ((hkN y).cls ≠ "java/lang/invoke/MethodHandle") && (decide ((hkN y).cls ≠ "java/lang/invoke/VarHandle") && (decide (hkX y ≤ 40) && (decide (hkWd (hkTg y) ≤ hkX y) && (match hkRt y, hkR y with
  | 0, some .int => true
  | 3, some .boolean => true
  | 1, some .long => true
  | 9, none => true
  | _, _ => false))))))
set_option maxRecDepth 100000 in
theorem hkMAll : ∀ y, y < 183 → hkMOk y = true := by decide +kernel
theorem hkMFacts {y : Nat} (h : y < 183) : plainFor (hkN y) = true ∧ (hkN y).cls = hkOwnS (hkOwn y) ∧ (hkN y).cls ≠ "java/lang/invoke/MethodHandle" ∧ (hkN y).cls ≠ "java/lang/invoke/VarHandle" ∧ hkX y ≤ 40 ∧ hkWd (hkTg y) ≤ hkX y := by
  have h1 := hkMAll y h
  unfold hkMOk at h1
  simp only [Bool.and_eq_true, decide_eq_true_eq] at h1
  exact ⟨h1.1, h1.2.1, h1.2.2.1, h1.2.2.2.1, h1.2.2.2.2.1, h1.2.2.2.2.2.1⟩
theorem hkMRet {y : Nat} (h : y < 183) : (hkRt y = 0 → hkR y = some .int) ∧ (hkRt y = 3 → hkR y = some .boolean) ∧ (hkRt y = 1 → hkR y = some .long) ∧ (hkRt y = 9 → hkR y = none) := by
  have h1 := hkMAll y h
  unfold hkMOk at h1
  simp only [Bool.and_eq_true, decide_eq_true_eq] at h1
  have h2 := h1.2.2.2.2.2.2
  split at h2 <;> first | (rename_i e1 e2; refine ⟨fun h => ?_, fun h => ?_, fun h => ?_, fun h => ?_⟩ <;> first | exact e2 | (rw [e1] at h; exact absurd h (by decide))) | cases h2
/-- what the pure machine's instruction keeps -/
theorem hkPx_keep {y : Nat} {i : Instr} {n pc : Nat} {ls st : List hkV} {t : Nat} {g : hkG} {q : hkC} (hp : hkPx y i n (pc, ls, st, t, g) = some (.inl q)) : t ≤ q.2.2.2.1 ∧ ∀ r : Int, r < 0 → q.2.2.2.2 r = g r := by
  have KK : ∀ {pc' : Nat} {ls' st' : List hkV} {q : hkC}, hkGo pc' ls' st' t g = some (.inl q) → t ≤ q.2.2.2.1 ∧ ∀ r : Int, r < 0 → q.2.2.2.2 r = g r := by
    intro pc' ls' st' q h
    obtain rfl := hkGo_inv h
    exact ⟨Nat.le_refl _, fun _ _ => rfl⟩
  have KE : ∀ {pc' : Nat} {ls' st' : List hkV} {q : hkC}, hkGo pc' ls' st' (t + 1) g = some (.inl q) → t ≤ q.2.2.2.1 ∧ ∀ r : Int, r < 0 → q.2.2.2.2 r = g r := by
    intro pc' ls' st' q h
    obtain rfl := hkGo_inv h
    exact ⟨Nat.le_succ _, fun _ _ => rfl⟩
  have KT : ∀ {pc' : Nat} {off : Int} {ls' st' : List hkV} {q : hkC}, hkTgt pc' off ls' st' t g = some (.inl q) → t ≤ q.2.2.2.1 ∧ ∀ r : Int, r < 0 → q.2.2.2.2 r = g r := by
    intro pc' off ls' st' q h
    unfold hkTgt at h
    split at h
    · exact KK h
    · cases h
  have KN : ∀ {kd pc' : Nat} {x : Option Int} {ls' st' : List hkV} {q : hkC}, hkNew kd pc' x ls' st' t g = some (.inl q) → t ≤ q.2.2.2.1 ∧ ∀ r : Int, r < 0 → q.2.2.2.2 r = g r := by
    intro kd pc' x ls' st' q h
    obtain ⟨P, z, w, -, -, -, rfl⟩ := hkNew_inv h
    exact ⟨Nat.le_succ _, fun _ _ => rfl⟩
  have KS : ∀ {i k pc' : Nat} {v : hkV} {ls' st' : List hkV} {q : hkC}, hkSt i k pc' ls' v st' t g = some (.inl q) → t ≤ q.2.2.2.1 ∧ ∀ r : Int, r < 0 → q.2.2.2.2 r = g r := by
    intro i k pc' v ls' st' q h
    obtain ⟨-, -, rfl⟩ := hkSt_inv h
    exact ⟨Nat.le_refl _, fun _ _ => rfl⟩
  have KL : ∀ {tg k pc' : Nat} {ls' st' : List hkV} {q : hkC}, hkLd tg k pc' ls' st' t g = some (.inl q) → t ≤ q.2.2.2.1 ∧ ∀ r : Int, r < 0 → q.2.2.2.2 r = g r := by
    intro tg k pc' ls' st' q h
    obtain ⟨x, -, rfl⟩ := hkLd_inv h
    exact ⟨Nat.le_refl _, fun _ _ => rfl⟩
  have KA : ∀ {k pc' : Nat} {ls' st' : List hkV} {q : hkC}, hkLdA k pc' ls' st' t g = some (.inl q) → t ≤ q.2.2.2.1 ∧ ∀ r : Int, r < 0 → q.2.2.2.2 r = g r := by
    intro k pc' ls' st' q h
    obtain ⟨x, -, -, rfl⟩ := hkLdA_inv h
    exact ⟨Nat.le_refl _, fun _ _ => rfl⟩
  have KB : ∀ {f : Int → Int → Int} {pc' : Nat} {ls' st' : List hkV} {q : hkC}, hkBin f pc' ls' st' t g = some (.inl q) → t ≤ q.2.2.2.1 ∧ ∀ r : Int, r < 0 → q.2.2.2.2 r = g r := by
    intro f pc' ls' st' q h
    obtain ⟨x, z, st2, -, rfl⟩ := hkBin_inv h
    exact ⟨Nat.le_refl _, fun _ _ => rfl⟩
  have KBL : ∀ {f : Int → Int → Int} {pc' : Nat} {ls' st' : List hkV} {q : hkC}, hkBinL f pc' ls' st' t g = some (.inl q) → t ≤ q.2.2.2.1 ∧ ∀ r : Int, r < 0 → q.2.2.2.2 r = g r := by
    intro f pc' ls' st' q h
    obtain ⟨x, z, st2, -, rfl⟩ := hkBinL_inv h
    exact ⟨Nat.le_refl _, fun _ _ => rfl⟩
  have KU : ∀ {tg tg2 : Nat} {f : Int → Int} {pc' : Nat} {ls' st' : List hkV} {q : hkC}, hkUn tg tg2 f pc' ls' st' t g = some (.inl q) → t ≤ q.2.2.2.1 ∧ ∀ r : Int, r < 0 → q.2.2.2.2 r = g r := by
    intro tg tg2 f pc' ls' st' q h
    obtain ⟨x, st2, -, rfl⟩ := hkUn_inv h
    exact ⟨Nat.le_refl _, fun _ _ => rfl⟩
  have KD : ∀ {kd tg pc' : Nat} {ls' st' : List hkV} {q : hkC}, hkAld kd tg pc' ls' st' t g = some (.inl q) → t ≤ q.2.2.2.1 ∧ ∀ r : Int, r < 0 → q.2.2.2.2 r = g r := by
    intro kd tg pc' ls' st' q h
    rcases hkAld_inv h with ⟨k, P, st2, -, -, -, -, rfl⟩ | ⟨k, P, st2, -, -, -, -, rfl⟩ <;> exact ⟨Nat.le_refl _, fun _ _ => rfl⟩
  have KW : ∀ {kd tg pc' : Nat} {ls' st' : List hkV} {q : hkC}, kd < 999 → hkAst kd tg pc' ls' st' t g = some (.inl q) → t ≤ q.2.2.2.1 ∧ ∀ r : Int, r < 0 → q.2.2.2.2 r = g r := by
    intro kd tg pc' ls' st' q hkd h
    obtain ⟨x, k, P, st2, -, h1, -, -, -, rfl⟩ := hkAst_inv h
    have := (hkJK_inv h1 hkd).1
    exact ⟨Nat.le_refl _, fun r hr => hkSet_row (by omega)⟩
  cases i <;> simp only [hkPx] at hp <;> first
    | (cases hp; done)
    | exact KK hp
    | exact KT hp
    | exact KL hp
    | exact KA hp
    | exact KB hp
    | exact KBL hp
    | exact KU hp
    | exact KD hp
    | exact KW (by decide) hp
    | (split at hp <;> first | (cases hp; done) | exact KK hp | exact KS hp | exact (hkInvV_ni hp).elim | (obtain ⟨-, hp⟩ := hkChk_inv hp; exact KK hp) | (obtain ⟨-, hp⟩ := hkChk_inv hp; exact KE hp) | (split at hp <;> first | (cases hp; done) | exact KN hp | exact KT hp | (rcases hkBr_inv hp with ⟨-, hp⟩ | ⟨-, hp⟩ <;> exact KK hp)) | exact KN hp)
    | skip
  · unfold hkGetf at hp
    split at hp <;> first | (cases hp; done) | skip
    obtain ⟨-, hp⟩ := hkChk_inv hp
    split at hp
    · obtain ⟨-, hp⟩ := hkChk_inv hp
      exact KK hp
    · exact KK hp
  · split at hp
    · exact (hkInv_ni hp).elim
    · split at hp
      · exact (hkInv_ni hp).elim
      · split at hp <;> first | (cases hp; done) | skip
        split at hp <;> first | (cases hp; done) | exact KK hp
  · split at hp
    · exact (hkInv_ni hp).elim
    · split at hp <;> first | (cases hp; done) | skip
      obtain ⟨⟨h1, h2, -⟩, hp⟩ := hkChk_inv hp
      split at hp <;> first | (cases hp; done) | skip
      obtain rfl := hkGo_inv hp
      have := (hkJK_inv h2 (by decide)).1
      refine ⟨Nat.le_refl _, fun r hr => ?_⟩
      funext z
      show hkCpy g _ _ _ _ _ r z = g r z
      unfold hkCpy
      rw [if_neg (by rintro ⟨h, -⟩; rw [h] at hr; omega)]
  · split at hp <;> first | (cases hp; done) | skip
    split at hp <;> first | (cases hp; done) | skip
    split at hp <;> first | (cases hp; done) | skip
    obtain ⟨-, hp⟩ := hkChk_inv hp
    cases hp
  · unfold hkPutf at hp
    split at hp <;> first | (cases hp; done) | skip
    · rename_i z P st' ci k hfl
      obtain ⟨h1, hp⟩ := hkChk_inv hp
      have := (hkJK_inv h1 (by have := (hkFld_ok hfl).1; omega)).1
      split at hp
      · obtain rfl := hkGo_inv hp
        exact ⟨Nat.le_refl _, fun r hr => hkSet_row (by omega)⟩
      · split at hp <;> first | (cases hp; done) | skip
        obtain ⟨-, hp⟩ := hkChk_inv hp
        obtain rfl := hkGo_inv hp
        exact ⟨Nat.le_refl _, fun r hr => hkSet_row (by omega)⟩
    · split at hp <;> first | (cases hp; done) | skip
      obtain ⟨-, hp⟩ := hkChk_inv hp
      obtain rfl := hkGo_inv hp
      exact ⟨Nat.le_succ _, fun _ _ => rfl⟩
end
section
/-! a run of the pure machine from a method's entry is a contract of that method -/
theorem hkMet_ofW {l : Launch} {y : MethodName} {ws ws' : List Cond} {rm : Room} {Pc : Array Value → State → Prop} {Qc : Array Value → State → Outcome → State → Prop} {mc ms : Nat} {free : Addr → Prop} {cc : ByteArray} {maxL : Nat} {ret : Option FieldType}
    (hy : plainFor y = true) (hw : ws = Cond.code y cc maxL ret :: ws')
    (body : ∀ p e s m args below meth c s₁, BodyLoose p l y (headSpec ws rm) cc maxL ret e s m args below meth c s₁ → c.maxLocals = maxL → Pc args s →
      W p l e (headSpec ws rm).room s m args below meth c s.heap [] 0 0 (MQ below Qc args s mc ms free) (entryFrame m args maxL)) : Met l y ws rm Pc Qc mc ms free := by
  refine MetFree.of_bodySF (code := cc) (maxLocals := maxL) (ret := ret) hy ?_ ?_
  · intro args s m h hn
    obtain ⟨meth, c, h1, h2, h3, h4, h5, h6, -, -⟩ := Cond.code_spec hn (atoms_spec (ws := ws) h _ (by rw [hw]; exact List.mem_cons_self))
    exact ⟨meth, c, h1, h2, h3, h4, h5, h6⟩
  · intro p e s m args below meth c s₁ B hml hP _
    have hh0 : s₁.heap = s.heap := by rw [B.state]; rfl
    obtain ⟨t, a1, o, b1, b2, b3⟩ := body p e s m args below meth c s₁ B hml hP s₁ hh0 (Stand.of_body B)
    exact ⟨t, o, a1, b1, b2, ⟨b3.1, b3.2⟩⟩
theorem hkRun_keep : ∀ (n d y : Nat) (c : hkC) (r : Option hkV) (t : Nat) (g : hkG), hkRun n d y c = some (r, t, g) → c.2.2.2.1 ≤ t ∧ ∀ z : Int, z < 0 → g z = c.2.2.2.2 z := by
  intro n
  induction n with
  | zero => intro d y c r t g h; simp [hkRun] at h
  | succ n ih =>
    intro d y c r t g h
    obtain ⟨pc, ls, st, t1, g1⟩ := c
    unfold hkRun at h
    split at h
    · cases h
    · rename_i i len hf
      split at h
      · cases h
      · rename_i q hq
        obtain ⟨a1, a2⟩ := hkPx_keep hq
        obtain ⟨b1, b2⟩ := ih d y q r t g h
        exact ⟨Nat.le_trans a1 b1, fun z hz => by rw [b2 z hz, a2 z hz]⟩
      · rename_i y' as pc' ls' st' hq
        split at h
        · cases h
        · rename_i d'
          split at h
          · cases h
          · rename_i r' t' g' hr
            obtain ⟨a1, a2⟩ := ih d' y' _ r' t' g' hr
            obtain ⟨b1, b2⟩ := ih (d' + 1) y _ r t g h
            simp only at a1 a2 b1 b2 ⊢
            exact ⟨Nat.le_trans a1 b1, fun z hz => by rw [b2 z hz, a2 z hz]⟩
      · cases h
        exact ⟨Nat.le_refl _, fun _ _ => rfl⟩
def hkRm (d t t' : Nat) : Room := { frames := d + 1, cells := hkNX t' - hkNX t, slots := hkNS t' - hkNS t, locals := 64 * (d + 1) }
/-- the state a method begins in -/
def hkPc (dC : Nat → ClassId) (dI : Nat → Nat → Nat) (adr : Nat → Nat) (cA : Nat → ClassId) (tys : List (ClassId × FieldType)) (t : Nat) (g : hkG) (as : List hkV) (sz : Nat) : Array Value → State → Prop :=
  va_Pc (as.map (hkVal adr 0)) (fun U => U.heap.size = sz ∧ va_P (dC, dI) hkCl (hkWs adr cA t g) U.heap ∧ va_K (dC, dI) hkCl tys U ∧ va_D (fun _ => True) (hkWs adr cA t g) ∧ hkNst U)
/-- the state it ends in -/
def hkQc (dC : Nat → ClassId) (dI : Nat → Nat → Nat) (adr : Nat → Nat) (t : Nat) (r : Option hkV) (t' : Nat) (g' : hkG) (A : Nat → Prop) : Array Value → State → Outcome → State → Prop := fun _ st oc u =>
  (∃ (adr' : Nat → Nat) (cA' : Nat → ClassId) (tys' : List (ClassId × FieldType)), oc = .returned (r.map (hkVal adr' 0)) ∧ (∀ z, z < hkNX t → adr' z = adr z) ∧ va_P (dC, dI) hkCl (hkWs adr' cA' t' g') u.heap ∧ va_K (dC, dI) hkCl tys' u ∧ va_D A (hkWs adr' cA' t' g') ∧
    (∀ z : Nat, z < hkNX t' → 100 ≤ hkKd z → ∃ k0 : Nat, tys'[k0]? = some (cA' z, hkAty (hkKd z))) ∧ hkGOK t' g' ∧ (∀ v, r = some v → hkOK False t' v) ∧ t' ≤ 190) ∧ va_F A st u
theorem hkVal_b {adr : Nat → Nat} {b b' t : Nat} {v : hkV} (h : hkOK False t v) : hkVal adr b v = hkVal adr b' v := by
  unfold hkVal
  rcases h with ⟨h, -⟩ | ⟨h, -⟩ | ⟨h, -⟩ | ⟨-, h⟩
  · simp only [h]
  · simp only [h]
  · simp only [h]
  · exact h.elim
theorem hkVals_b {adr : Nat → Nat} {b b' t : Nat} {as : List hkV} (h : ∀ v ∈ as, hkOK False t v) : as.map (hkVal adr b) = as.map (hkVal adr b') := List.map_congr_left fun v hv => hkVal_b (h v hv)
theorem hkPop_inv : ∀ (tg : List Nat) (st as rest : List hkV), hkPop tg st = some (as, rest) → st = as.reverse ++ rest ∧ as.map (fun v => v.1) = tg.reverse := by
  intro tg
  induction tg with
  | nil => intro st as rest h; simp [hkPop] at h; obtain ⟨rfl, rfl⟩ := h; simp
  | cons a tg ih =>
    intro st as rest h
    cases st with
    | nil => simp [hkPop] at h
    | cons v st =>
      unfold hkPop at h
      split at h
      · rename_i hv
        split at h
        · rename_i as' st' hp
          simp only [Option.some.injEq, Prod.mk.injEq] at h
          obtain ⟨rfl, rfl⟩ := h
          obtain ⟨h1, h2⟩ := ih _ _ _ hp
          refine ⟨by rw [h1]; simp, by rw [List.map_append, h2]; simp [hv]⟩
        · cases h
      · cases h
theorem hkSl_len (adr : Nat → Nat) (b : Nat) (as : List hkV) : (lg_sl (as.map (hkVal adr b))).length = (as.flatMap (fun v => if v.1 = 1 then [v, hkU] else [v])).length := by
  induction as with
  | nil => rfl
  | cons v as ih =>
    unfold lg_sl at ih ⊢
    simp only [List.map_cons, List.flatMap_cons, List.length_append, ih]
    rw [hkCat_val]
    unfold hkCat
    by_cases h : v.1 = 1 <;> simp [h]
theorem hkEnt_wd (as : List hkV) : (as.flatMap (fun v => if v.1 = 1 then [v, hkU] else [v])).length = hkWd (as.map (fun v => v.1)) := by
  induction as with
  | nil => rfl
  | cons v as ih =>
    unfold hkWd at ih ⊢
    simp only [List.flatMap_cons, List.length_append, ih, List.map_cons, List.sum_cons]
    by_cases h : v.1 = 1 <;> simp [h]
theorem hkArgs_mem (adr : Nat → Nat) (b : Nat) : ∀ (as : List hkV) (i j : Nat) (v : hkV), (as.flatMap (fun v => if v.1 = 1 then [v, hkU] else [v]))[j]? = some v → v.1 ≠ 9 → (i + j, hkVal adr b v) ∈ lv_args i (as.map (hkVal adr b)) := by
  intro as
  induction as with
  | nil => intro i j v h; simp at h
  | cons a as ih =>
    intro i j v h h9
    simp only [List.flatMap_cons] at h
    rw [List.map_cons]
    unfold lv_args
    rw [hkCat_val]
    by_cases ha : a.1 = 1
    · have hc : hkCat a = 2 := by unfold hkCat; rw [if_pos ha]
      rw [if_pos ha] at h
      rw [if_pos hc]
      match j, h with
      | 0, h =>
        simp at h; subst h
        exact List.mem_cons_self
      | 1, h =>
        simp at h; subst h
        exact absurd rfl h9
      | j + 2, h =>
        have h' : (as.flatMap (fun v => if v.1 = 1 then [v, hkU] else [v]))[j]? = some v := by simpa using h
        have := ih (i + 2) j v h' h9
        rw [show i + (j + 2) = i + 2 + j from by omega]
        exact List.mem_cons_of_mem _ this
    · have hc : ¬ hkCat a = 2 := by unfold hkCat; rw [if_neg ha]; decide
      rw [if_neg ha] at h
      rw [if_neg hc]
      match j, h with
      | 0, h =>
        simp at h; subst h
        exact List.mem_cons_self
      | j + 1, h =>
        have h' : (as.flatMap (fun v => if v.1 = 1 then [v, hkU] else [v]))[j]? = some v := by simpa using h
        have := ih (i + 1) j v h' h9
        rw [show i + (j + 1) = i + 1 + j from by omega]
        exact List.mem_cons_of_mem _ this
theorem hkEnt_lv {adr : Nat → Nat} {b n : Nat} {as : List hkV} (hw : hkWd (as.map (fun v => v.1)) ≤ n) : lv_has ((lg_sl (as.map (hkVal adr b)) ++ List.replicate (n - (lg_sl (as.map (hkVal adr b))).length) Slot.unset).toArray) n (hkLv adr b (hkEnt n as)) ∧ (hkEnt n as).length = n := by
  have hlen := hkSl_len adr b as
  have hwd := hkEnt_wd as
  have h0 := lv_entry (as.map (hkVal adr b)) (n := n) (by rw [hlen, hwd]; exact hw)
  refine ⟨⟨h0.1, h0.2.1, fun q hq => h0.2.2 q ?_⟩, ?_⟩
  · obtain ⟨v, h1, h2, h3⟩ := hkLv_mem.mp hq
    unfold hkEnt at h1
    by_cases hj : q.1 < (as.flatMap (fun v => if v.1 = 1 then [v, hkU] else [v])).length
    · rw [List.getElem?_append_left hj] at h1
      have := hkArgs_mem adr b as 0 q.1 v h1 h2
      rw [show q = (0 + q.1, hkVal adr b v) from by rw [Nat.zero_add, ← h3]]
      exact this
    · rw [List.getElem?_append_right (by omega), List.getElem?_replicate] at h1
      split at h1
      · cases h1; exact absurd rfl h2
      · cases h1
  · unfold hkEnt
    simp only [List.length_append, List.length_replicate]
    omega
theorem hkEnt_ok {n t : Nat} {fl : Prop} {as : List hkV} (h : ∀ v ∈ as, hkOK fl t v) : ∀ v ∈ hkEnt n as, hkOK fl t v ∨ v.1 = 9 := by
  intro v hv
  unfold hkEnt at hv
  rcases List.mem_append.mp hv with hv | hv
  · obtain ⟨w, hw, hv⟩ := List.mem_flatMap.mp hv
    split at hv
    · simp only [List.mem_cons, List.mem_nil_iff, or_false] at hv
      rcases hv with rfl | rfl
      · exact Or.inl (h _ hw)
      · exact Or.inr rfl
    · simp only [List.mem_cons, List.mem_nil_iff, or_false] at hv
      subst hv
      exact Or.inl (h _ hw)
  · exact Or.inr (by rw [(List.mem_replicate.mp hv).2]; rfl)
end
section
/-! the run, frame by frame -/
section HKN
variable {p : Program} {l : Launch} {e : Env} {R : Room} {s : State} {m : MethodId} {args : Array Value} {below : List Frame} {meth : Method} {c : Code} {Q : State → Prop}
variable {dC : Nat → ClassId} {dI : Nat → Nat → Nat} {y : Nat} {fl : Prop} {b : Nat} {A : Nat → Prop} {adr0 : Nat → Nat} {t0 : Nat}
variable {pc n : Nat} {ls st : List hkV} {t : Nat} {g : hkG} {H : Heap} {locs : List Loc} {adr : Nat → Nat} {cA : Nat → ClassId} {tys : List (ClassId × FieldType)} {lsA : Array Slot} {q : hkC} {i : Instr}
/-- what is done at the method's end -/
def hkRet (p : Program) (l : Launch) (e : Env) (R : Room) (s : State) (m : MethodId) (args : Array Value) (below : List Frame) (meth : Method) (c : Code) (Q : State → Prop) (dC : Nat → ClassId) (dI : Nat → Nat → Nat) (y : Nat) (fl : Prop) (b : Nat) (A : Nat → Prop) (adr0 : Nat → Nat) (t0 : Nat) (rF : Option hkV) (tF : Nat) (gF : hkG) : Prop :=
  ∀ (i : Instr) (n pc : Nat) (ls st : List hkV) (H : Heap) (locs : List Loc) (adr : Nat → Nat) (cA : Nat → ClassId) (tys : List (ClassId × FieldType)) (lsA : Array Slot), hkFetch y pc = some (i, n) → hkPx y i n (pc, ls, st, tF, gF) = some (.inr (.inr rF)) → hkCx dC dI s y fl b A adr0 t0 (pc, ls, st, tF, gF) H locs adr cA tys lsA →
    W p l e R s m args below meth c H locs (hkNX tF - hkNX t0) (hkNS tF - hkNS t0) Q (F0 m pc lsA (st.map (hkVal adr b)))
theorem hkRet_inv {r : Option hkV} (h : hkPx y i n (pc, ls, st, t, g) = some (.inr (.inr r))) : (i = .ireturn ∧ ∃ x, st = [(0, x)] ∧ r = some (0, x) ∧ (hkRt y = 0 ∨ (hkRt y = 3 ∧ (x = 0 ∨ x = 1)))) ∨ (i = .lreturn ∧ ∃ x, st = [(1, x)] ∧ r = some (1, x) ∧ hkRt y = 1) ∨ (i = .return_ ∧ st = [] ∧ r = none ∧ hkRt y = 9) := by
  have KG : ∀ {pc' : Nat} {ls' st' : List hkV} {t' : Nat} {g' : hkG} {r : Option hkV}, hkGo pc' ls' st' t' g' = some (.inr (.inr r)) → False := by
    intro pc' ls' st' t' g' r h
    unfold hkGo at h; simp at h
  have KC : ∀ {cd : Prop} {z : hkO} {r : Option hkV}, hkChk cd z = some (.inr (.inr r)) → z = some (.inr (.inr r)) := fun h => (hkChk_inv h).2
  have KI : ∀ {y' pc' : Nat} {ls' st' : List hkV} {r : Option hkV}, hkInv y' pc' ls' st' = some (.inr (.inr r)) → False := by
    intro y' pc' ls' st' r h
    unfold hkInv at h
    split at h
    · split at h <;> simp at h
    · cases h
  have KV : ∀ {y' pc' : Nat} {ls' st' : List hkV} {r : Option hkV}, hkInvV y' pc' ls' st' = some (.inr (.inr r)) → False := by
    intro y' pc' ls' st' r h
    unfold hkInvV at h
    split at h
    · have h := KC h
      split at h <;> simp at h
    · cases h
  have KT : ∀ {pc' : Nat} {off : Int} {ls' st' : List hkV} {t' : Nat} {g' : hkG} {r : Option hkV}, hkTgt pc' off ls' st' t' g' = some (.inr (.inr r)) → False := by
    intro pc' off ls' st' t' g' r h
    unfold hkTgt at h
    split at h
    · exact KG h
    · cases h
  have KN : ∀ {kd pc' : Nat} {x : Option Int} {ls' st' : List hkV} {t' : Nat} {g' : hkG} {r : Option hkV}, hkNew kd pc' x ls' st' t' g' = some (.inr (.inr r)) → False := by
    intro kd pc' x ls' st' t' g' r h
    unfold hkNew at h
    split at h
    · exact KG (KC h)
    · cases h
  have KS : ∀ {i k pc' : Nat} {v : hkV} {ls' st' : List hkV} {t' : Nat} {g' : hkG} {r : Option hkV}, hkSt i k pc' ls' v st' t' g' = some (.inr (.inr r)) → False := by
    intro i k pc' v ls' st' t' g' r h
    unfold hkSt at h
    split at h
    · exact KG (KC h)
    · cases h
  cases i <;> simp only [hkPx] at h <;> first
    | (cases h; done)
    | exact (KG h).elim
    | exact (KT h).elim
    | exact (KV h).elim
    | (exfalso; unfold hkLd at h; split at h <;> first | (cases h; done) | (split at h <;> first | (cases h; done) | exact KG h))
    | (exfalso; unfold hkLdA at h; split at h <;> first | (cases h; done) | (split at h <;> first | (cases h; done) | exact KG h))
    | (exfalso; unfold hkBin at h; split at h <;> first | (cases h; done) | exact KG h)
    | (exfalso; unfold hkBinL at h; split at h <;> first | (cases h; done) | exact KG h)
    | (exfalso; unfold hkUn at h; split at h <;> first | (cases h; done) | (split at h <;> first | (cases h; done) | exact KG h))
    | (exfalso; unfold hkAld at h; split at h <;> first | (cases h; done) | exact KG (KC h) | (split at h <;> first | (cases h; done) | exact KG (KC h)))
    | (exfalso; unfold hkAst at h; split at h <;> first | (cases h; done) | (split at h <;> first | (cases h; done) | exact KG (KC h)))
    | (exfalso; unfold hkGetf at h; split at h <;> first | (cases h; done) | (have h := KC h; split at h <;> first | exact KG h | exact KG (KC h)))
    | (exfalso; unfold hkPutf at h; split at h <;> first | (cases h; done) | (have h := KC h; split at h <;> first | exact KG h | (split at h <;> first | (cases h; done) | exact KG (KC h))) | (split at h <;> first | (cases h; done) | exact KG (KC h)))
    | (exfalso; split at h <;> first | (cases h; done) | exact KG h | exact KS h | exact KV h | exact KI h | exact KN h | exact KG (KC h) | (split at h <;> first | (cases h; done) | exact KT h | exact KN h | exact KI h | (rcases hkBr_inv h with ⟨-, h⟩ | ⟨-, h⟩ <;> exact KG h) | (split at h <;> first | (cases h; done) | exact KG h | (split at h <;> first | (cases h; done) | exact KG h))))
    | skip
  · exfalso
    split at h
    · exact KI h
    · split at h <;> first | (cases h; done) | skip
      have h := KC h
      split at h
      · exact KG h
      · cases h
  · split at h
    · rename_i x
      split at h
      · rename_i hr
        simp only [Option.some.injEq, Sum.inr.injEq] at h
        exact Or.inl ⟨rfl, x, rfl, h.symm, Or.inl hr⟩
      · split at h
        · rename_i hr
          obtain ⟨h1, h2⟩ := hkChk_inv h
          simp only [Option.some.injEq, Sum.inr.injEq] at h2
          exact Or.inl ⟨rfl, x, rfl, h2.symm, Or.inr ⟨hr, h1⟩⟩
        · cases h
    · cases h
  · split at h
    · rename_i x
      split at h
      · rename_i hr
        simp only [Option.some.injEq, Sum.inr.injEq] at h
        exact Or.inr (Or.inl ⟨rfl, x, rfl, h.symm, hr⟩)
      · cases h
    · cases h
  · split at h
    · split at h
      · rename_i hr
        simp only [Option.some.injEq, Sum.inr.injEq] at h
        exact Or.inr (Or.inr ⟨rfl, rfl, h.symm, hr⟩)
      · cases h
    · cases h
end HKN
end
section
/-! calls: their words; what comes behind one -/
set_option maxRecDepth 100000 in
theorem hkCT0_a : ∀ q ∈ hkCT0, Cond.methodLink (hkOwnS q.1) q.2.1 (hkN q.2.2.1) ∈ lw_tbl := hkMapI (ix := fun q => q.2.2.2.getD 0 0) (by rfl)
set_option maxRecDepth 100000 in
theorem hkCT0_b : ∀ q ∈ hkCT0, Cond.instanceMethod (hkN q.2.2.1) ∈ lw_tbl := hkMapI (ix := fun q => q.2.2.2.getD 1 0) (by rfl)
set_option maxRecDepth 100000 in
theorem hkCT0_c : ∀ q ∈ hkCT0, Cond.selects (hkN q.2.2.1).cls (hkN q.2.2.1) (hkN q.2.2.1) ∈ lw_tbl := hkMapI (ix := fun q => q.2.2.2.getD 2 0) (by rfl)
set_option maxRecDepth 100000 in
theorem hkCT0_d : ∀ q ∈ hkCT0, Cond.initialized (hkN q.2.2.1).cls ∈ lw_tbl := hkMapI (ix := fun q => q.2.2.2.getD 3 0) (by rfl)
def hkPar (y k : Nat) : Bool := match parseMethodDescriptor (hkN y).desc with
  | some d => d.parameters.length + k == (hkTg y).length
  | none => false
theorem hkPar_ok {y k : Nat} (h : hkPar y k = true) : (parseMethodDescriptor (hkN y).desc).map (fun d => d.parameters.length) = some ((hkTg y).length - k) := by
  unfold hkPar at h
  split at h
  · rename_i d hd
    rw [hd]
    have : d.parameters.length + k = (hkTg y).length := by simpa using h
    simp only [Option.map_some, Option.some.injEq]
    omega
  · cases h
theorem hkCT0_n : ∀ q ∈ hkCT0, q.2.2.1 < 183 ∧ hkPar q.2.2.1 1 = true ∧ (hkTg q.2.2.1).head? = some 2 := by decide +kernel
set_option maxRecDepth 100000 in
theorem hkCT1_a : ∀ q ∈ hkCT1, Cond.methodLink (hkOwnS q.1) q.2.1 (hkN q.2.2.1) ∈ lw_tbl := hkMapI (ix := fun q => q.2.2.2.getD 0 0) (by rfl)
set_option maxRecDepth 100000 in
theorem hkCT1_b : ∀ q ∈ hkCT1, Cond.instanceMethod (hkN q.2.2.1) ∈ lw_tbl := hkMapI (ix := fun q => q.2.2.2.getD 1 0) (by rfl)
set_option maxRecDepth 100000 in
theorem hkCT1_d : ∀ q ∈ hkCT1, Cond.initialized (hkN q.2.2.1).cls ∈ lw_tbl := hkMapI (ix := fun q => q.2.2.2.getD 2 0) (by rfl)
theorem hkCT1_n : ∀ q ∈ hkCT1, q.2.2.1 < 183 ∧ hkPar q.2.2.1 1 = true ∧ (hkTg q.2.2.1).head? = some 2 ∧ (hkN q.2.2.1).name = "<init>" ∧ hkRt q.2.2.1 = 9 := by decide +kernel
set_option maxRecDepth 100000 in
theorem hkCT3_b : ∀ q ∈ hkCT3, Cond.instanceMethod (hkN q.2.2.1) ∈ lw_tbl := hkMapI (ix := fun q => q.2.2.2.getD 1 0) (by rfl)
set_option maxRecDepth 100000 in
theorem hkCT3_d : ∀ q ∈ hkCT3, Cond.initialized (hkN q.2.2.1).cls ∈ lw_tbl := hkMapI (ix := fun q => q.2.2.2.getD 2 0) (by rfl)
theorem hkCT3_n : ∀ q ∈ hkCT3, q.2.2.1 < 183 ∧ hkPar q.2.2.1 1 = true ∧ (hkTg q.2.2.1).head? = some 2 ∧ (hkN q.2.2.1).name = "<init>" ∧ hkRt q.2.2.1 = 9 := by decide +kernel
set_option maxRecDepth 100000 in
theorem hkCT2_a : ∀ q ∈ hkCT2, Cond.methodLink (hkOwnS q.1) q.2.1 (hkN q.2.2.1) ∈ lw_tbl := hkMapI (ix := fun q => q.2.2.2.getD 0 0) (by rfl)
set_option maxRecDepth 100000 in
theorem hkCT2_b : ∀ q ∈ hkCT2, Cond.static (hkN q.2.2.1) ∈ lw_tbl := hkMapI (ix := fun q => q.2.2.2.getD 1 0) (by rfl)
set_option maxRecDepth 100000 in
theorem hkCT2_d : ∀ q ∈ hkCT2, Cond.initialized (hkN q.2.2.1).cls ∈ lw_tbl := hkMapI (ix := fun q => q.2.2.2.getD 2 0) (by rfl)
theorem hkCT2_n : ∀ q ∈ hkCT2, q.2.2.1 < 183 ∧ hkPar q.2.2.1 0 = true := by decide +kernel
abbrev hkW1 (y : Nat) : List Cond := Cond.code (hkN y) (hkB y) (hkX y) (hkR y) :: hkGt
theorem hkGt_good {w : Cond} (h : w ∈ hkGt) : w ∈ hkGt ∧ ((w.onTables && w.keeps) = true ∨ ∃ ty, w = .arrayClass ty) := ⟨h, good_of_word (List.mem_filter.mp h).2⟩
theorem hkGood {y : Nat} (h : y < 183) (l : List Cond) (hl : ∀ w ∈ l, w ∈ hkGt) : GoodIn hkGt (l ++ hkW1 y) := by
  intro w hw
  rcases List.mem_append.mp hw with hw | hw
  · exact hkGt_good (hl w hw)
  · rcases List.mem_cons.mp hw with rfl | hw
    · exact hkGt_good (hkGt_of (hkCode_w (by omega)) rfl)
    · exact hkGt_good hw
theorem hkNst_w {s U : State} (hW : s.WarmedH U.vm) (h : hkNst s) : hkNst U := ⟨fun q hq => va_Nw.warmM hW (h.1 q hq), va_AO.moved hW.alike h.2.1, va_AO.moved hW.alike h.2.2⟩
theorem hkNst_c {U : State} {g : JFrame} {mk : MethodId} {a : Array Value} (h : hkNst U) : hkNst (U.calling g mk a) := ⟨fun q hq => va_tabs rfl (rfl : U.vm = (U.calling g mk a).vm) (h.1 q hq), va_AO.moved (Vm.Alike.refl U.vm) h.2.1, va_AO.moved (Vm.Alike.refl U.vm) h.2.2⟩
theorem hkPc_blind {dC : Nat → ClassId} {dI : Nat → Nat → Nat} {adr : Nat → Nat} {cA : Nat → ClassId} {tys : List (ClassId × FieldType)} {t : Nat} {g : hkG} {as : List hkV} {sz : Nat} : FrameBlind (hkPc dC dI adr cA tys t g as sz) := by
  intro a U f mk q
  obtain ⟨q0, q1, qP, qK, qD, qN⟩ := q
  exact ⟨q0, q1, qP, va_K.moved (u := U) (U := U.calling f mk a) (Vm.Alike.refl U.vm) qK, qD, hkNst_c qN⟩
section HKN
variable {p : Program} {l : Launch} {e : Env} {R : Room} {s : State} {m : MethodId} {args : Array Value} {below : List Frame} {meth : Method} {c : Code} {Q : State → Prop}
variable {dC : Nat → ClassId} {dI : Nat → Nat → Nat} {y : Nat} {fl : Prop} {b : Nat} {A : Nat → Prop} {adr0 : Nat → Nat} {t0 : Nat}
variable {pc n : Nat} {ls st : List hkV} {t : Nat} {g : hkG} {H : Heap} {locs : List Loc} {adr : Nat → Nat} {cA : Nat → ClassId} {tys : List (ClassId × FieldType)} {lsA : Array Slot} {q : hkC} {i : Instr}
theorem hkPc_at (hF : hkFr p R s m args meth c y fl b A) (hC : hkCx dC dI s y fl b A adr0 t0 (pc, ls, st, t, g) H locs adr cA tys lsA) (as : List hkV) : ∀ U : State, U.heap = H → s.WarmedH U.vm → hkPc dC dI adr cA tys t g as H.size (as.map (hkVal adr 0)).toArray U := by
  intro U hU hW
  exact ⟨rfl, by rw [hU], by rw [hU]; exact hC.1, va_K.moved hW.alike hC.2.1, hC.2.2.1.weaken (fun _ _ _ _ => trivial), hkNst_w hW hF.2.2.2.2.2.2.2.2.1⟩
/-- behind a call -/
theorem hkCallW {r : Option hkV} {t' : Nat} {g' : hkG} {rest : List hkV} {a : Array Value} {stA : List Value} (hF : hkFr p R s m args meth c y fl b A) (hC : hkCx dC dI s y fl b A adr0 t0 (pc, ls, st, t, g) H locs adr cA tys lsA)
    (hr : va_Run p l e R s m args below meth c H locs (hkNX t - hkNX t0) (hkNS t - hkNS t0) (hkNX t' - hkNX t) (hkNS t' - hkNS t) (F0 m pc lsA stA) (rest.map (hkVal adr b)) (hkQc dC dI adr t r t' g' (va_A (hkWs adr cA t g) H.size) a) (va_A (hkWs adr cA t g) H.size))
    (htt : t ≤ t') (hneg : ∀ z : Int, z < 0 → g' z = g z) (hrest : ∀ v ∈ rest, v ∈ st) (hn : hkNext p l e R s m args below meth c Q dC dI y fl b A adr0 t0 (pc + 3, ls, hkPush r rest, t', g')) :
    W p l e R s m args below meth c H locs (hkNX t - hkNX t0) (hkNS t - hkNS t0) Q (F0 m pc lsA stA) := by
  have hA := hF.2.2.2.2.2.2.2.2.2.1
  obtain ⟨a1, a2, a3, a4, a5, a6, a7, a8, a9, a10, a11, a12, a13, a14⟩ := hC
  simp only at a1 a3 a5 a6 a7 a8 a9 a10 a11 a12 a14
  have hsub : ∀ z, va_A (hkWs adr cA t g) H.size z → A z := by
    rintro z (⟨k, x, hk⟩ | hz)
    · exact a3.2 k _ hk
    · exact hA z (Nat.le_trans a4.1 hz)
  intro T hT X
  obtain ⟨v, st₀, u, T', L, h0, X', hL, e1, e2, ⟨⟨adr', cA', tys', hv, ha, hP, hK, hD, hty, hg, hro, ht⟩, hz, hk⟩, stp⟩ := hr T hT X
  rw [h0] at hz hk
  have hv' : v = r.map (hkVal adr' 0) := by simpa using hv
  have hmx := hkNX_mono htt
  have hms := hkNS_mono htt
  have hm0 := hkNX_mono a11
  have hs0 := hkNS_mono a11
  have hvals : rest.map (hkVal adr b) = rest.map (hkVal adr' b) := List.map_congr_left fun w hw => (hkVal_congr (Or.inl (a10 w (hrest w hw))) ha).symm
  have hstack : v.toList ++ rest.map (hkVal adr b) = (hkPush r rest).map (hkVal adr' b) := by
    rw [hv', hvals]
    cases r with
    | none => rfl
    | some w =>
      show [hkVal adr' 0 w] ++ _ = hkVal adr' b w :: _
      rw [hkVal_b (b' := b) (hro w rfl)]; rfl
  have K := hn T'.heap (locs ++ L) adr' cA' tys' lsA ⟨by rw [e1]; exact hP, va_K.moved (by rw [← e2]; exact X'.warmed.alike.symm) hK, hD.weaken (fun _ _ _ h => hsub _ h),
    ⟨Nat.le_trans a4.1 (by rw [e1]; exact hz), fun z h1 h2 => by rw [e1, hk z (Nat.lt_of_lt_of_le h1 a4.1) (fun h => h2 (hsub z h))]; exact a4.2.1 z h1 h2, fun z hz => by
      rcases List.mem_append.mp hz with h | h
      · exact a4.2.2 z h
      · exact hsub _ (hL z h)⟩,
    hty, hg, hkLv_congr a7 a9 ha, a8, fun w hw => (a9 w hw).imp (fun h => hkOK_mono h htt) (fun h => h), ?_, Nat.le_trans a11 htt, ht, fun z hz => by rw [ha z (Nat.lt_of_lt_of_le hz hm0)]; exact a13 z hz, fun h L xs hX => by
      obtain ⟨b1, b2, b3⟩ := a14 h L xs hX
      simp only at b1 b3 ⊢
      rw [hneg (-2) (by decide), hneg (-1) (by decide)]
      exact ⟨b1, b2, b3⟩⟩
  · simp only at K
    rw [show hkNX t' - hkNX t0 = hkNX t - hkNX t0 + (hkNX t' - hkNX t) from by omega, show hkNS t' - hkNS t0 = hkNS t - hkNS t0 + (hkNS t' - hkNS t) from by omega, ← hstack] at K
    obtain ⟨t2, b1, b2⟩ := K T' rfl X'
    exact ⟨t2, stp t2 b1, b2⟩
  · intro w hw
    cases r with
    | none => exact hkOK_mono (a10 w (hrest w hw)) htt
    | some w' =>
      rcases List.mem_cons.mp hw with rfl | hw
      · rcases hro _ rfl with h | h | h | ⟨-, h⟩
        · exact Or.inl h
        · exact Or.inr (Or.inl h)
        · exact Or.inr (Or.inr (Or.inl h))
        · exact h.elim
      · exact hkOK_mono (a10 w (hrest w hw)) htt
end HKN
end
section
/-! THE RUN: what the pure machine answers, the machine answers -/
section HKN
variable {p : Program} {l : Launch} {e : Env} {R : Room} {s : State} {m : MethodId} {args : Array Value} {below : List Frame} {meth : Method} {c : Code} {Q : State → Prop}
variable {dC : Nat → ClassId} {dI : Nat → Nat → Nat} {y : Nat} {fl : Prop} {b : Nat} {A : Nat → Prop} {adr0 : Nat → Nat} {t0 : Nat}
variable {pc n : Nat} {ls st : List hkV} {t : Nat} {g : hkG} {H : Heap} {locs : List Loc} {adr : Nat → Nat} {cA : Nat → ClassId} {tys : List (ClassId × FieldType)} {lsA : Array Slot} {q : hkC} {i : Instr}
theorem hkRetMet {tF : Nat} {gF : hkG} {rF : Option hkV} (hy : y < 183) (hF : hkFr p R s m args meth c y False 0 A) : hkRet p l e R s m args below meth c (MQ below (hkQc dC dI adr0 t0 rF tF gF A) args s (hkNX tF - hkNX t0) (hkNS tF - hkNS t0) A) dC dI y False 0 A adr0 t0 rF tF gF := by
  obtain ⟨hx, hb, hr, hml, hown, hts, hnm, hlocks, -⟩ := hF
  intro i n pc ls st H locs adr cA tys lsA hd hp hC
  obtain ⟨a1, a2, a3, a4, a5, a6, a7, a8, a9, a10, a11, a12, a13, a14⟩ := hC
  simp only at a1 a3 a5 a6 a10 a12
  obtain ⟨r0, r3, r1, r9⟩ := hkMRet hy
  have hq : ∀ (ov : Option Value), ov = rF.map (hkVal adr 0) → (∀ v, rF = some v → v ∈ st) → ∀ u : State, u.heap = H → s.WarmedH u.vm → hkQc dC dI adr0 t0 rF tF gF A args s (.returned ov) u := by
    intro ov hov hin u hu hW
    exact ⟨⟨adr, cA, tys, by rw [hov], a13, by rw [hu]; exact a1, va_K.moved hW.alike a2, a3, a5, a6, fun v hv => a10 v (hin v hv), a12⟩, a4.F hu⟩
  rcases hkRet_inv hp with ⟨rfl, x, rfl, rfl, hrt⟩ | ⟨rfl, x, rfl, rfl, hrt⟩ | ⟨rfl, rfl, rfl, hrt⟩ <;> obtain ⟨rfl, hde⟩ := hkFetch_at hd rfl
  · rcases hrt with h0 | ⟨h3, hx01⟩
    · exact W.iret (v := Int32.ofInt x) hx hb (hr.trans (r0 h0)) (hq _ rfl (fun v hv => by cases hv; exact List.mem_cons_self)) a4.2.2 hde hlocks
    · exact W.zret (v := Int32.ofInt x) (ty := .boolean) hx hb (hr.trans (r3 h3)) (by rcases hx01 with rfl | rfl <;> rfl) (hq _ rfl (fun v hv => by cases hv; exact List.mem_cons_self)) a4.2.2 hde hlocks
  · exact W.lret (v := Int64.ofInt x) hx hb (hr.trans (r1 hrt)) (hq _ rfl (fun v hv => by cases hv; exact List.mem_cons_self)) a4.2.2 hde hlocks
  · exact W.vret hx hb (hr.trans (r9 hrt)) (hq _ rfl (fun v hv => by cases hv)) a4.2.2 hde hlocks
/-- the statement that goes by induction on the steps: of every frame -/
def hkAt (n : Nat) : Prop := ∀ (d y : Nat) (q : hkC) (rF : Option hkV) (tF : Nat) (gF : hkG), hkRun n d y q = some (rF, tF, gF) →
  ∀ (p : Program) (l : Launch) (e : Env) (R : Room) (s : State) (m : MethodId) (args : Array Value) (below : List Frame) (meth : Method) (c : Code) (Q : State → Prop) (dC : Nat → ClassId) (dI : Nat → Nat → Nat) (fl : Prop) (b : Nat) (A : Nat → Prop) (adr0 : Nat → Nat) (t0 : Nat),
    hkFr p R s m args meth c y fl b A → d + 1 ≤ R.frames → 64 * (d + 1) ≤ R.locals → hkNX tF - hkNX t0 ≤ R.cells → hkNS tF - hkNS t0 ≤ R.slots →
    hkRet p l e R s m args below meth c Q dC dI y fl b A adr0 t0 rF tF gF → hkNext p l e R s m args below meth c Q dC dI y fl b A adr0 t0 q
theorem hkMet (hn : hkAt n) {d y' : Nat} {as : List hkV} {r : Option hkV} {t' : Nat} {g' : hkG} (hrun : hkRun n d y' (0, hkEnt (hkX y') as, [], t, g) = some (r, t', g')) (hy : y' < 183) (has : ∀ v ∈ as, hkOK False t v) (htg : as.map (fun v => v.1) = hkTg y') (hg : hkGOK t g) (ht : t ≤ 190) (hty : ∀ z : Nat, z < hkNX t → 100 ≤ hkKd z → ∃ k0 : Nat, tys[k0]? = some (cA z, hkAty (hkKd z))) (l : Launch) (dC : Nat → ClassId) (dI : Nat → Nat → Nat) (adr : Nat → Nat) (sz : Nat) :
    Met l (hkN y') (hkW1 y') (hkRm d t t') (hkPc dC dI adr cA tys t g as sz) (hkQc dC dI adr t r t' g' (va_A (hkWs adr cA t g) sz)) (hkNX t' - hkNX t) (hkNS t' - hkNS t) (va_A (hkWs adr cA t g) sz) := by
  obtain ⟨m1, m2, m3, m4, m5, m6⟩ := hkMFacts hy
  refine hkMet_ofW (cc := hkB y') (maxL := hkX y') (ret := hkR y') m1 rfl ?_
  intro p e s m args below meth c s₁ B hml hv
  obtain ⟨rfl, hsz, hP, hK, hD0, hN⟩ := hv
  have hts := atoms_spec (ws := hkW1 y') B.pre
  have hown : s.vm.findClass (hkN y').cls = some m.cls := findClass_of_methodNamed B.named
  rw [m2] at hown
  subst hsz
  have hF : hkFr p (headSpec (hkW1 y') (hkRm d t t')).room s m (as.map (hkVal adr 0)).toArray meth c y' False 0 (va_A (hkWs adr cA t g) s.heap.size) :=
    ⟨B.exec, B.bytes, B.returns, hml, hown, fun w hw => hts w (List.mem_cons_of_mem _ hw), fun h => (name_of_methodNamed B.named B.method).1.trans h, B.notSynchronized, hN, fun z h => Or.inr h, by show 1 ≤ d + 1; omega, by show 64 ≤ 64 * (d + 1); omega, fun h => h.elim⟩
  obtain ⟨hl, hlen⟩ := hkEnt_lv (adr := adr) (b := 0) (n := hkX y') (as := as) (by rw [htg]; exact m6)
  rw [lg_entry_eq]
  generalize (lg_sl (as.map (hkVal adr 0)) ++ List.replicate (hkX y' - (lg_sl (as.map (hkVal adr 0))).length) Slot.unset).toArray = lsA at hl ⊢
  have K := hn d y' _ r t' g' hrun p l e (headSpec (hkW1 y') (hkRm d t t')).room s m (as.map (hkVal adr 0)).toArray below meth c (MQ below (hkQc dC dI adr t r t' g' (va_A (hkWs adr cA t g) s.heap.size)) (as.map (hkVal adr 0)).toArray s (hkNX t' - hkNX t) (hkNS t' - hkNS t) (va_A (hkWs adr cA t g) s.heap.size)) dC dI False 0 (va_A (hkWs adr cA t g) s.heap.size) adr t hF (Nat.le_refl _) (Nat.le_refl _) (Nat.le_refl _) (Nat.le_refl _) (hkRetMet hy hF)
    s.heap [] adr cA tys lsA ⟨hP, hK, hD0.self, va_S.rf, hty, hg, hl, hlen, hkEnt_ok has, fun v hv => (List.not_mem_nil hv).elim, Nat.le_refl _, ht, fun _ _ => rfl, fun h => h.elim⟩
  simp only [Nat.sub_self] at K
  exact K
theorem hkInv_inv {y' pc' : Nat} {z : hkK} (h : hkInv y' pc' ls st = some (.inr (.inl z))) : ∃ as rest, z = (y', as, pc', ls, rest) ∧ st = as.reverse ++ rest ∧ as.map (fun v => v.1) = hkTg y' ∧ (rest.map hkCat).sum ≤ 8 := by
  unfold hkInv at h
  split at h
  · rename_i as rest hpop
    split at h
    · rename_i hc
      simp only [Option.some.injEq, Sum.inr.injEq, Sum.inl.injEq] at h
      obtain ⟨h1, h2⟩ := hkPop_inv _ _ _ _ hpop
      exact ⟨as, rest, h.symm, h1, by rw [h2, List.reverse_reverse], hc⟩
    · cases h
  · cases h
theorem hkInvV_inv {y' pc' : Nat} {z : hkK} (h : hkInvV y' pc' ls st = some (.inr (.inl z))) : ∃ as rest, z = (y', as, pc', ls, rest) ∧ st = as.reverse ++ rest ∧ as.map (fun v => v.1) = hkTg y' ∧ (rest.map hkCat).sum ≤ 8 ∧ hkJK (hkFst as) = hkOwn y' := by
  unfold hkInvV at h
  split at h
  · rename_i as rest hpop
    obtain ⟨hj, h⟩ := hkChk_inv h
    split at h
    · rename_i hc
      simp only [Option.some.injEq, Sum.inr.injEq, Sum.inl.injEq] at h
      obtain ⟨h1, h2⟩ := hkPop_inv _ _ _ _ hpop
      exact ⟨as, rest, h.symm, h1, by rw [h2, List.reverse_reverse], hc, hj⟩
    · cases h
  · cases h
theorem hkOwn_lt {k : Nat} {v : Int} (h : hkJK v = k) (hk : k = hkOwn y) (h0 : v.toNat < hkNX t) (hko : hkOwn y < 17) : 0 ≤ v ∧ hkOwn y < 11 := by
  subst hk
  obtain ⟨h1, h2, h3⟩ := hkJK_inv h (by omega)
  have h91 : v.toNat < 91 := Nat.lt_of_lt_of_le h0 (hkNX_le t)
  have := hkKd_in _ h91
  rw [h2] at this
  unfold hkKinds at this
  simp only [List.mem_cons, List.mem_nil_iff, or_false] at this
  exact ⟨h1, by omega⟩
theorem hkOwn_all : ∀ y, y < 183 → hkOwn y < 17 := by decide +kernel
theorem hkHead {as : List hkV} {tg : List Nat} (h : as.map (fun v => v.1) = tg) (h2 : tg.head? = some 2) : ∃ (o : Int) (as' : List hkV), as = (2, o) :: as' ∧ as'.length = tg.length - 1 := by
  subst h
  cases as with
  | nil => simp at h2
  | cons v as' =>
    obtain ⟨k, o⟩ := v
    simp at h2
    subst h2
    exact ⟨o, as', rfl, by simp⟩
theorem hkAs_ok (hC : hkCx dC dI s y fl b A adr0 t0 (pc, ls, st, t, g) H locs adr cA tys lsA) {as rest : List hkV} (h : st = as.reverse ++ rest) {y' : Nat} (htg : as.map (fun v => v.1) = hkTg y') (hy : ∀ k ∈ hkTg y', k < 3) : ∀ v ∈ as, hkOK False t v := by
  intro v hv
  have h1 : hkOK fl t v := hkCx_k hC v (by rw [h]; exact List.mem_append_left _ (List.mem_reverse.mpr hv))
  have h2 : v.1 < 3 := hy _ (by rw [← htg]; exact List.mem_map.mpr ⟨v, hv, rfl⟩)
  rcases h1 with h1 | h1 | h1 | ⟨h1, -⟩
  · exact Or.inl h1
  · exact Or.inr (Or.inl h1)
  · exact Or.inr (Or.inr (Or.inl h1))
  · omega
theorem hkTg_all : ∀ y, y < 183 → ∀ k ∈ hkTg y, k < 3 := by decide +kernel
end HKN
end
section
/-! a call, by its kind -/
section HKN
variable {p : Program} {l : Launch} {e : Env} {R : Room} {s : State} {m : MethodId} {args : Array Value} {below : List Frame} {meth : Method} {c : Code} {Q : State → Prop}
variable {dC : Nat → ClassId} {dI : Nat → Nat → Nat} {y : Nat} {fl : Prop} {b : Nat} {A : Nat → Prop} {adr0 : Nat → Nat} {t0 : Nat}
variable {pc n : Nat} {ls st : List hkV} {t : Nat} {g : hkG} {H : Heap} {locs : List Loc} {adr : Nat → Nat} {cA : Nat → ClassId} {tys : List (ClassId × FieldType)} {lsA : Array Slot} {q : hkC} {i : Instr}
theorem hkCall_inv {z : hkK} (h : hkPx y i n (pc, ls, st, t, g) = some (.inr (.inl z))) : (∃ idx y', i = .invokevirtual idx ∧ hkFind hkCT0 (hkOwn y) idx = some y' ∧ hkInvV y' (pc + n) ls st = some (.inr (.inl z))) ∨ (∃ idx y', i = .invokespecial idx ∧ hkFind hkCT1 (hkOwn y) idx = some y' ∧ hkInv y' (pc + n) ls st = some (.inr (.inl z))) ∨ (∃ idx y', i = .invokespecial idx ∧ hkFind hkCT3 (hkOwn y) idx = some y' ∧ hkInv y' (pc + n) ls st = some (.inr (.inl z))) ∨ (∃ idx y', i = .invokestatic idx ∧ hkFind hkCT2 (hkOwn y) idx = some y' ∧ hkInv y' (pc + n) ls st = some (.inr (.inl z))) := by
  have KG : ∀ {pc' : Nat} {ls' st' : List hkV} {t' : Nat} {g' : hkG} {r : hkK}, hkGo pc' ls' st' t' g' = some (.inr (.inl r)) → False := by
    intro pc' ls' st' t' g' r h
    unfold hkGo at h; simp at h
  have KC : ∀ {cd : Prop} {z : hkO} {r : hkK}, hkChk cd z = some (.inr (.inl r)) → z = some (.inr (.inl r)) := fun h => (hkChk_inv h).2
  have KT : ∀ {pc' : Nat} {off : Int} {ls' st' : List hkV} {t' : Nat} {g' : hkG} {r : hkK}, hkTgt pc' off ls' st' t' g' = some (.inr (.inl r)) → False := by
    intro pc' off ls' st' t' g' r h
    unfold hkTgt at h
    split at h
    · exact KG h
    · cases h
  have KN : ∀ {kd pc' : Nat} {x : Option Int} {ls' st' : List hkV} {t' : Nat} {g' : hkG} {r : hkK}, hkNew kd pc' x ls' st' t' g' = some (.inr (.inl r)) → False := by
    intro kd pc' x ls' st' t' g' r h
    unfold hkNew at h
    split at h
    · exact KG (KC h)
    · cases h
  have KS : ∀ {i k pc' : Nat} {v : hkV} {ls' st' : List hkV} {t' : Nat} {g' : hkG} {r : hkK}, hkSt i k pc' ls' v st' t' g' = some (.inr (.inl r)) → False := by
    intro i k pc' v ls' st' t' g' r h
    unfold hkSt at h
    split at h
    · exact KG (KC h)
    · cases h
  cases i <;> simp only [hkPx] at h <;> first
    | (cases h; done)
    | exact (KG h).elim
    | exact (KT h).elim
    | (exfalso; unfold hkLd at h; split at h <;> first | (cases h; done) | (split at h <;> first | (cases h; done) | exact KG h))
    | (exfalso; unfold hkLdA at h; split at h <;> first | (cases h; done) | (split at h <;> first | (cases h; done) | exact KG h))
    | (exfalso; unfold hkBin at h; split at h <;> first | (cases h; done) | exact KG h)
    | (exfalso; unfold hkBinL at h; split at h <;> first | (cases h; done) | exact KG h)
    | (exfalso; unfold hkUn at h; split at h <;> first | (cases h; done) | (split at h <;> first | (cases h; done) | exact KG h))
    | (exfalso; unfold hkAld at h; split at h <;> first | (cases h; done) | exact KG (KC h) | (split at h <;> first | (cases h; done) | exact KG (KC h)))
    | (exfalso; unfold hkAst at h; split at h <;> first | (cases h; done) | (split at h <;> first | (cases h; done) | exact KG (KC h)))
    | (exfalso; unfold hkGetf at h; split at h <;> first | (cases h; done) | (have h := KC h; split at h <;> first | exact KG h | exact KG (KC h)))
    | (exfalso; unfold hkPutf at h; split at h <;> first | (cases h; done) | (have h := KC h; split at h <;> first | exact KG h | (split at h <;> first | (cases h; done) | exact KG (KC h))) | (split at h <;> first | (cases h; done) | exact KG (KC h)))
    | (exfalso; split at h <;> first | (cases h; done) | exact KG h | exact KS h | exact KN h | exact KG (KC h) | (split at h <;> first | (cases h; done) | exact KT h | exact KN h | (rcases hkBr_inv h with ⟨-, h⟩ | ⟨-, h⟩ <;> exact KG h) | (split at h <;> first | (cases h; done) | exact KG h | (split at h <;> first | (cases h; done) | exact KG h))))
    | skip
  all_goals first
    | (exfalso; split at h <;> first | (cases h; done) | (simp at h; done) | (split at h <;> first | (cases h; done) | (simp at h; done) | (split at h <;> first | (cases h; done) | (have h := KC h; simp at h; done))))
    | skip
  · split at h
    · rename_i y' hy
      exact Or.inr (Or.inl ⟨_, y', rfl, hy, h⟩)
    · split at h
      · rename_i y' hy
        exact Or.inr (Or.inr (Or.inl ⟨_, y', rfl, hy, h⟩))
      · exfalso
        split at h <;> first | (cases h; done) | skip
        split at h <;> first | (cases h; done) | exact KG h
  · split at h
    · rename_i y' hy
      exact Or.inr (Or.inr (Or.inr ⟨_, y', rfl, hy, h⟩))
    · exfalso
      split at h <;> first | (cases h; done) | skip
      have h := KC h
      split at h
      · exact KG h
      · cases h
  · split at h
    · rename_i y' hy
      exact Or.inl ⟨_, y', rfl, hy, h⟩
    · cases h
end HKN
end
section
/-! a call is a call; and the run, whole -/
section HKN
variable {p : Program} {l : Launch} {e : Env} {R : Room} {s : State} {m : MethodId} {args : Array Value} {below : List Frame} {meth : Method} {c : Code} {Q : State → Prop}
variable {dC : Nat → ClassId} {dI : Nat → Nat → Nat} {y : Nat} {fl : Prop} {b : Nat} {A : Nat → Prop} {adr0 : Nat → Nat} {t0 : Nat}
variable {pc n : Nat} {ls st : List hkV} {t : Nat} {g : hkG} {H : Heap} {locs : List Loc} {adr : Nat → Nat} {cA : Nat → ClassId} {tys : List (ClassId × FieldType)} {lsA : Array Slot} {q : hkC} {i : Instr}
theorem hkS_call {nn d y' pc' : Nat} {as ls' rest : List hkV} {r : Option hkV} {t' : Nat} {g' : hkG} (hF : hkFr p R s m args meth c y fl b A) (hC : hkCx dC dI s y fl b A adr0 t0 (pc, ls, st, t, g) H locs adr cA tys lsA) (hd : hkFetch y pc = some (i, n)) (hp : hkPx y i n (pc, ls, st, t, g) = some (.inr (.inl (y', as, pc', ls', rest)))) (hAt : hkAt nn) (hrun : hkRun nn d y' (0, hkEnt (hkX y') as, [], t, g) = some (r, t', g')) (hfr : d + 2 ≤ R.frames) (hlo : 64 * (d + 2) ≤ R.locals) (hcell : hkNX t' - hkNX t0 ≤ R.cells ∧ hkNS t' - hkNS t0 ≤ R.slots)
    (hn : hkNext p l e R s m args below meth c Q dC dI y fl b A adr0 t0 (pc', ls', hkPush r rest, t', g')) : W p l e R s m args below meth c H locs (hkNX t - hkNX t0) (hkNS t - hkNS t0) Q (F0 m pc lsA (st.map (hkVal adr b))) := by
  have hF' := hF
  obtain ⟨hx, hb, hr, hml, hown, hts, -⟩ := hF
  obtain ⟨htt, hneg⟩ := hkRun_keep _ _ _ _ _ _ _ hrun
  simp only at htt hneg
  have ht190 : t ≤ 190 := hC.2.2.2.2.2.2.2.2.2.2.2.1
  have ht0 : t0 ≤ t := hC.2.2.2.2.2.2.2.2.2.2.1
  have hsz := hC.2.2.2.2.2.2.1.1
  have hm0 := hkNX_mono ht0
  have hs0 := hkNS_mono ht0
  have hmx := hkNX_mono htt
  have hms := hkNS_mono htt
  have hfit : hkNX t - hkNX t0 + (hkNX t' - hkNX t) ≤ R.cells ∧ hkNS t - hkNS t0 + (hkNS t' - hkNS t) ≤ R.slots := by omega
  have hS : CallFix p m c (hkB y) (hkX y) s args hkGt (hkOwnS (hkOwn y)) := ⟨hx, hb, hml, hown, hts⟩
  have hMet : ∀ (y' : Nat) (as : List hkV), y' < 183 → (∀ v ∈ as, hkOK False t v) → as.map (fun v => v.1) = hkTg y' → hkRun nn d y' (0, hkEnt (hkX y') as, [], t, g) = some (r, t', g') → _ := fun y' as hy has htg hrun => hkMet (tys := tys) (cA := cA) hAt hrun hy has htg hC.2.2.2.2.2.1 ht190 hC.2.2.2.2.1 l dC dI adr H.size
  have hroom : ∀ y', y' < 183 → (hkRm d t t').frames + 1 ≤ R.frames ∧ 8 + (hkX y' + 11) + (hkRm d t t').locals ≤ R.locals := by
    intro y' hy
    obtain ⟨m1, m2, m3, m4, m5, m6⟩ := hkMFacts hy
    refine ⟨by show d + 1 + 1 ≤ R.frames; omega, ?_⟩
    show 8 + (hkX y' + 11) + 64 * (d + 1) ≤ R.locals
    omega
  rcases hkCall_inv hp with ⟨idx, y2, rfl, hfi, hk⟩ | ⟨idx, y2, rfl, hfi, hk⟩ | ⟨idx, y2, rfl, hfi, hk⟩ | ⟨idx, y2, rfl, hfi, hk⟩ <;> obtain ⟨rfl, hde⟩ := hkFetch_at hd rfl <;> obtain ⟨w, hw⟩ := hkFindM hfi
  · obtain ⟨as2, rest2, hz, hst, htg, hcat, hjk⟩ := hkInvV_inv hk
    simp only [Prod.mk.injEq] at hz
    obtain ⟨rfl, rfl, rfl, rfl, rfl⟩ := hz
    obtain ⟨hy, hpar, hhd⟩ := hkCT0_n _ hw
    obtain ⟨m1, m2, m3, m4, m5, m6⟩ := hkMFacts hy
    have has := hkAs_ok hC hst htg (hkTg_all _ hy)
    obtain ⟨o, as', rfl, hlen⟩ := hkHead htg hhd
    have ho := hkOK_r (has _ List.mem_cons_self)
    have hjk : hkJK o = hkOwn y' := hjk
    obtain ⟨hj0, hj1⟩ := hkOwn_lt (y := y') hjk rfl ho.2 (hkOwn_all _ hy)
    obtain ⟨j1, j2, j3⟩ := hkJK_inv hjk (by omega)
    have hwo := hkWs_get (adr := adr) (cA := cA) (g := g) ho.2
    rw [hkCell_o (by omega), j2] at hwo
    have hrec := va_recv hC.2.1 hC.1 (hkCl_ok hj1) hwo
    refine hkCallW hF' hC (va_runV (b := adr o.toNat) (As := as'.map (hkVal adr 0)) (rest := rest.map (hkVal adr b)) (C := (hkN y').cls) hS (hMet y' _ hy has htg hrun) (cwV ((hkTg y').length - 1) hts (hkGood hy [_, _, _, _] ?_) rfl rfl rfl ⟨rfl, m3, m4, hkPar_ok hpar⟩ (hroom y' hy)) ⟨hkPc_blind, by rw [m2]; exact hrec, ?_⟩ rfl (by rw [List.length_map]; exact hlen) hsz ?_ (lv_room (by rw [hkCats]; exact hcat)) hde hfit) htt hneg (fun v hv => by rw [hst]; exact List.mem_append_right _ hv) hn
    · intro w hw'
      simp only [List.mem_cons, List.mem_nil_iff, or_false] at hw'
      rcases hw' with rfl | rfl | rfl | rfl
      · exact hkGt_of (hkCT0_a _ hw) rfl
      · exact hkGt_of (hkCT0_b _ hw) rfl
      · exact hkGt_of (hkCT0_c _ hw) rfl
      · exact hkGt_of (hkCT0_d _ hw) rfl
    · intro U hU hW
      exact hkPc_at hF' hC ((2, o) :: as') U hU hW
    · show st.map (hkVal adr b) = _
      have has' : ∀ v ∈ as', hkOK False t v := fun v hv => has v (List.mem_cons_of_mem _ hv)
      rw [hst, hkVals_b (b := 0) (b' := b) has']
      simp; rfl
  · obtain ⟨as2, rest2, hz, hst, htg, hcat⟩ := hkInv_inv hk
    simp only [Prod.mk.injEq] at hz
    obtain ⟨rfl, rfl, rfl, rfl, rfl⟩ := hz
    obtain ⟨hy, hpar, hhd, hnm, hrt⟩ := hkCT1_n _ hw
    obtain ⟨m1, m2, m3, m4, m5, m6⟩ := hkMFacts hy
    have has := hkAs_ok hC hst htg (hkTg_all _ hy)
    obtain ⟨o, as', rfl, hlen⟩ := hkHead htg hhd
    have hret := (hkMRet hy).2.2.2 hrt
    refine hkCallW hF' hC (va_runI (b := adr o.toNat) (As := as'.map (hkVal adr 0)) (rest := rest.map (hkVal adr b)) hS (hMet y' _ hy has htg hrun) (cwI (ws' := hkGt) (bytes := hkB y') (maxL := hkX y') ((hkTg y').length - 1) hts (hkGood hy [] (fun _ h => by cases h)) (by show hkW1 y' = _; unfold hkW1; rw [hret]) rfl rfl (hts _ (hkGt_of (hkCT1_d _ hw) rfl)) (hts _ (hkGt_of (hkCT1_a _ hw) rfl)) (hts _ (hkGt_of (hkCT1_b _ hw) rfl)) hnm ⟨m3, m4, hkPar_ok hpar⟩ (hroom y' hy)) ⟨hkPc_blind, ?_⟩ rfl (by rw [List.length_map]; exact hlen) hsz ?_ (lv_room (by rw [hkCats]; exact hcat)) hde hfit) htt hneg (fun v hv => by rw [hst]; exact List.mem_append_right _ hv) hn
    · intro U hU hW
      exact hkPc_at hF' hC ((2, o) :: as') U hU hW
    · show st.map (hkVal adr b) = _
      have has' : ∀ v ∈ as', hkOK False t v := fun v hv => has v (List.mem_cons_of_mem _ hv)
      rw [hst, hkVals_b (b := 0) (b' := b) has']
      simp; rfl
  · obtain ⟨as2, rest2, hz, hst, htg, hcat⟩ := hkInv_inv hk
    simp only [Prod.mk.injEq] at hz
    obtain ⟨rfl, rfl, rfl, rfl, rfl⟩ := hz
    obtain ⟨hy, hpar, hhd, hnm, hrt⟩ := hkCT3_n _ hw
    obtain ⟨m1, m2, m3, m4, m5, m6⟩ := hkMFacts hy
    have has := hkAs_ok hC hst htg (hkTg_all _ hy)
    obtain ⟨o, as', rfl, hlen⟩ := hkHead htg hhd
    have hret := (hkMRet hy).2.2.2 hrt
    have hnest := hF'.2.2.2.2.2.2.2.2.1.1 _ hw
    refine hkCallW hF' hC (va_runIN (b := adr o.toNat) (As := as'.map (hkVal adr 0)) (rest := rest.map (hkVal adr b)) hS (hMet y' _ hy has htg hrun) ⟨va_cnB (ws' := hkGt) (bytes := hkB y') (maxL := hkX y') ((hkTg y').length - 1) hts (hkGood hy [] (fun _ h => by cases h)) (by show hkW1 y' = _; unfold hkW1; rw [hret]) rfl rfl hnest (hts _ (hkGt_of (hkCT3_d _ hw) rfl)) ⟨m3, m4, hkPar_ok hpar⟩ (hroom y' hy), hnm, hts _ (hkGt_of (hkCT3_b _ hw) rfl)⟩ ⟨hkPc_blind, ?_⟩ rfl (by rw [List.length_map]; exact hlen) hsz ?_ (lv_room (by rw [hkCats]; exact hcat)) hde hfit) htt hneg (fun v hv => by rw [hst]; exact List.mem_append_right _ hv) hn
    · intro U hU hW
      exact hkPc_at hF' hC ((2, o) :: as') U hU hW
    · show st.map (hkVal adr b) = _
      have has' : ∀ v ∈ as', hkOK False t v := fun v hv => has v (List.mem_cons_of_mem _ hv)
      rw [hst, hkVals_b (b := 0) (b' := b) has']
      simp; rfl
  · obtain ⟨as2, rest2, hz, hst, htg, hcat⟩ := hkInv_inv hk
    simp only [Prod.mk.injEq] at hz
    obtain ⟨rfl, rfl, rfl, rfl, rfl⟩ := hz
    obtain ⟨hy, hpar⟩ := hkCT2_n _ hw
    obtain ⟨m1, m2, m3, m4, m5, m6⟩ := hkMFacts hy
    have has := hkAs_ok hC hst htg (hkTg_all _ hy)
    have hlen : as.length = (hkTg y').length - 0 := by rw [← htg, List.length_map]; omega
    refine hkCallW hF' hC (va_runS (As := as.map (hkVal adr 0)) (rest := rest.map (hkVal adr b)) hS (hMet y' _ hy has htg hrun) (va_cwS (ws' := hkGt) ((hkTg y').length - 0) hts (hkGood hy [_, _, _] ?_) rfl rfl rfl ⟨m3, m4, hkPar_ok hpar⟩ (hroom y' hy)) ⟨hkPc_blind, ?_⟩ rfl (by rw [List.length_map]; exact hlen) hsz ?_ (lv_room (by rw [hkCats]; exact hcat)) hde hfit) htt hneg (fun v hv => by rw [hst]; exact List.mem_append_right _ hv) hn
    · intro w hw'
      simp only [List.mem_cons, List.mem_nil_iff, or_false] at hw'
      rcases hw' with rfl | rfl | rfl
      · exact hkGt_of (hkCT2_a _ hw) rfl
      · exact hkGt_of (hkCT2_b _ hw) rfl
      · exact hkGt_of (hkCT2_d _ hw) rfl
    · intro U hU hW
      exact hkPc_at hF' hC as U hU hW
    · show st.map (hkVal adr b) = _
      rw [hst, hkVals_b (b := 0) (b' := b) has]
      simp
theorem hkAll : ∀ n, hkAt n := by
  intro n
  induction n with
  | zero => intro d y q rF tF gF h; simp [hkRun] at h
  | succ n ih =>
    intro d y q rF tF gF h p l e R s m args below meth c Q dC dI fl b A adr0 t0 hF hfr hlo hcell hslot hret
    obtain ⟨pc, ls, st, t, g⟩ := q
    intro H locs adr cA tys lsA hC
    unfold hkRun at h
    split at h
    · cases h
    · rename_i i len hf
      split at h
      · cases h
      · rename_i q' hq
        obtain ⟨k1, k2⟩ := hkRun_keep _ _ _ _ _ _ _ h
        have hmx := hkNX_mono k1
        have hms := hkNS_mono k1
        exact hkStep hF hC hf hq (ih d y q' rF tF gF h p l e R s m args below meth c Q dC dI fl b A adr0 t0 hF hfr hlo hcell hslot hret) ⟨by omega, by omega⟩
      · rename_i y' as pc' ls' st' hq
        split at h
        · cases h
        · rename_i d'
          split at h
          · cases h
          · rename_i r' t' g' hr
            obtain ⟨k1, k2⟩ := hkRun_keep _ _ _ _ _ _ _ h
            simp only at k1
            have hmx := hkNX_mono k1
            have hms := hkNS_mono k1
            exact hkS_call hF hC hf hq ih hr (by omega) (by omega) ⟨by omega, by omega⟩ (ih (d' + 1) y _ rF tF gF h p l e R s m args below meth c Q dC dI fl b A adr0 t0 hF hfr hlo hcell hslot hret)
      · rename_i r hq
        cases h
        exact hret _ _ _ _ _ _ _ _ _ _ _ hf hq hC
end HKN
end
section
/-! the law's entry: from a run of the pure machine to the walk that the skeleton wants (by program: wip/whole/gen_law.py) -/
/-! THE CLAIM OUT OF ONE WALK OF THE LAW'S BODY. Your part is whole_start (and what it stands on); all else here is the same for every law, but numbers. -/
def R_law : String := "HookBoxesLaw"
def lw_P (b : Addr) (xs : List Int32) (args : Array Value) (s : State) : Prop := args = #[.ref b] ∧ s.IntsAt b xs ∧ xs.length ≤ 3584 ∧ (Jvm.Cond.and given_1 narrow_1).before args s = true
def lw_Q (_ : Array Value) (s : State) (o : Outcome) (t : State) : Prop := o = .returned (some (.int 1)) ∧ Framed s o t [] 600000 7302250
def lw_Z (below : List Frame) (a : Array Value) (s : State) : State → Prop := fun t => ∃ o, t.status = .running ∧ Ended t below o ∧ lw_Q a s o t
/-- the law's own end, with 1 on the stack, nothing written that was there before, its room as the claim has it -/
theorem lw_ret {p : Program} {l : Launch} {e : Env} {s : State} {m : MethodId} {below : List Frame} {meth : Method} {c : Code} {b : Nat} (hx : p.tables.exec = Jvm.exec) (hb : c.code = code) (hr : meth.sig.returnType = ret) (hlocks : meth.locks = false) {pc : Nat} {H : Heap} {ls : Array Slot} (hdg : decode code pc = .ok (.ireturn, 1)) : W p l e room_1 s m #[Value.ref b] below meth c H [] 600000 7302250 (lw_Z below #[Value.ref b] s) (F0 m pc ls [.int 1]) := by
  intro T hT X
  obtain ⟨fs, hret, hrun, hended, hW, hframe⟩ := X.leave (v := some (.int 1)) (hlocks := hlocks) (fun h => by rw [hr] at h; cases h)
  have hmeth' : T.vm.method? m = some meth := X.method'
  refine ⟨T.setFrames fs, ?_, .returned (some (.int 1)), hrun, hended, rfl, ⟨_, rfl⟩, hW, hframe⟩
  jvm_step X.here [X.here.top, hx, hb, hdg, hmeth', hr, ret, narrow_b1]
  (try refine ⟨rfl, ?_⟩); (try refine ⟨rfl, ?_⟩)
  first | (intro acts; rw [hret _ acts rfl rfl rfl]) | rw [hret _ _ rfl rfl rfl]
  exact Steps.refl _
/-- what holds at the law's entry: the machine, the code, the tables' words (any of lw_tbl by 'hts w (by decide +kernel)'), the script of L ints xs at the cell b, what the Statement gives of the start (any of its parts by flat_of_before) -/
def lw_At (p : Program) (s : State) (m : MethodId) (meth : Method) (c : Code) (b L : Nat) (xs : Nat → Int32) : Prop :=
  p.tables.exec = Jvm.exec ∧ c.code = code ∧ meth.sig.returnType = ret ∧ c.maxLocals = 4 ∧ s.vm.findClass R_law = some m.cls ∧ (∀ w ∈ lw_tbl, w.before #[Value.ref b] s = true) ∧ va_X b L xs s s.heap ∧ b < s.heap.size ∧ meth.locks = false ∧ (Jvm.Cond.and given_1 narrow_1).before #[Value.ref b] s = true
def hkG0 (L : Nat) (xs : Nat → Int32) : hkG := fun p i => if p = -2 then (L : Int) else if p = -1 then (xs i.toNat).toInt else 0
set_option maxRecDepth 100000 in
theorem hkCT3_l : ∀ q ∈ hkCT3, Cond.methodLinkNest (hkOwnS q.1) q.2.1 (hkN q.2.2.1) "HookBoxes" ∈ lw_tbl := hkMapI (ix := fun q => q.2.2.2.getD 0 0) (by rfl)
theorem hkAO_sum : Cond.arrayOver (.object "HookBoxes$Sum") ∈ lw_tbl := List.mem_of_getElem? (i := 303) rfl
theorem hkAO_sheet : Cond.arrayOver (.object "HookBoxes$Sheet") ∈ lw_tbl := List.mem_of_getElem? (i := 376) rfl
theorem hkLaw_code : hkB 184 = code := by rfl
theorem hkLaw_x : hkX 184 = 4 := by rfl
theorem hkLaw_w {p : Program} {e : Env} {s : State} {m : MethodId} {below : List Frame} {meth : Method} {c : Code} (l : Launch) {b L : Nat} {xs : Nat → Int32} (hL : L ≤ 3584) (C0 : lw_At p s m meth c b L xs) {n d t' : Nat} {g' : hkG} (hd : d ≤ 1000) (hrun : hkRun n d 184 (0, hkEnt 4 [(4, 0)], [], 0, hkG0 L xs) = some (some (0, 1), t', g')) :
    W p l e room_1 s m #[Value.ref b] below meth c s.heap [] 0 0 (lw_Z below #[Value.ref b] s) (entryFrame m ([Value.ref b] : List Value).toArray 4) := by
  obtain ⟨hx, hb, hr, hml, hown, hts, hX, hbl, hlocks, hgv⟩ := id C0
  have htsG : ∀ w ∈ hkGt, w.before #[Value.ref b] s = true := fun w hw => hts w (List.mem_filter.mp hw).1
  have hKn : ∀ ci : Nat, ∃ q : ClassId × (Nat → Nat), ci < 11 → u_Kn s (hkOwnS ci) (hkTT ci) (hkNF ci) q.1 q.2 := by
    intro ci
    by_cases h : ci < 11
    · obtain ⟨c0, iS0, hK0⟩ := u_known (C := hkOwnS ci) (T := hkTT ci) (N := hkNF ci) (n := hkNF ci) htsG (hkWs_gt h) (htsG _ (hkIns_w ci h).1)
      exact ⟨(c0, iS0), fun _ => hK0⟩
    · exact ⟨(0, fun _ => 0), fun h' => absurd h' h⟩
  obtain ⟨f, hf⟩ := Classical.axiomOfChoice hKn
  have hK : va_K (fun k => (f k).1, fun k => (f k).2) hkCl [] s := by
    refine ⟨fun k q hq => ?_, fun k q h => by simp at h⟩
    have hk : k < 11 := (List.getElem?_eq_some_iff.mp hq).1
    rw [hkCl_ok hk] at hq
    cases hq
    exact hf k hk
  have hNst : hkNst s := ⟨fun q hq => va_Nw.of rfl (hts _ (hkCT3_l q hq)), va_AO.of (hts _ hkAO_sum), va_AO.of (hts _ hkAO_sheet)⟩
  have hF : hkFr p room_1 s m #[Value.ref b] meth c 184 True b (fun q => s.heap.size ≤ q) :=
    ⟨hx, hb.trans hkLaw_code.symm, hr, hml, hown, htsG, fun h => absurd h (by decide +kernel), hlocks, hNst, fun _ h => h, by decide, by decide, fun _ => ⟨L, xs, hX, hbl, Nat.not_le.mpr hbl⟩⟩
  have hnx : hkNX 0 = 0 := by rfl
  have hns : hkNS 0 = 0 := by rfl
  have hret : hkRet p l e room_1 s m #[Value.ref b] below meth c (lw_Z below #[Value.ref b] s) (fun k => (f k).1) (fun k => (f k).2) 184 True b (fun q => s.heap.size ≤ q) (fun _ => 0) 0 (some (0, 1)) t' g' := by
    intro i n pc ls st H locs adr cA tys lsA hde hp hC
    rcases hkRet_inv hp with ⟨rfl, x, rfl, hxe, -⟩ | ⟨rfl, x, rfl, hxe, hrt⟩ | ⟨rfl, rfl, hxe, hrt⟩
    · simp only [Option.some.injEq, Prod.mk.injEq, true_and] at hxe
      subst hxe
      obtain ⟨rfl, hde2⟩ := hkFetch_at hde rfl
      rw [hkLaw_code] at hde2
      refine va_forget (fun q hq => hC.2.2.2.1.2.2 q hq) ?_
      have h1 := hkNX_le t'
      have h2 : hkNS t' ≤ 7302250 := by
        have h3 := hkNS_mono (t := t') (u := t' + 190) (by omega)
        have h4 : hkNS (t' + 190) ≤ (hkPl.map (fun q => q.2)).sum := by
          unfold hkNS
          have h5 := List.take_append_drop (hkNX (t' + 190)) hkPl
          have h6 : (hkPl.map (fun q => q.2)).sum = ((hkPl.take (hkNX (t' + 190))).map (fun q => q.2)).sum + ((hkPl.drop (hkNX (t' + 190))).map (fun q => q.2)).sum := by
            rw [← List.sum_append, ← List.map_append, h5]
          omega
        have h7 : (hkPl.map (fun q => q.2)).sum ≤ 7302250 := by decide +kernel
        omega
      refine W.widen (k := 600000) (n := 7302250) (by omega) (by omega) ?_
      exact lw_ret hx hb hr hlocks hde2
    · simp at hxe
    · cases hxe
  obtain ⟨hl, hlen⟩ := hkEnt_lv (adr := fun _ => 0) (b := b) (n := 4) (as := [(4, 0)]) (by decide)
  have hl : lv_has ((lg_sl [Value.ref b] ++ List.replicate (4 - (lg_sl [Value.ref b]).length) Slot.unset).toArray) 4 (hkLv (fun _ => 0) b (hkEnt 4 [(4, 0)])) := hl
  rw [lg_entry_eq]
  generalize (lg_sl [Value.ref b] ++ List.replicate (4 - (lg_sl [Value.ref b]).length) Slot.unset).toArray = lsA at hl ⊢
  have h1 := hkNX_le t'
  have h2 : hkNS t' - hkNS 0 ≤ room_1.slots := by
    have h4 : hkNS t' ≤ (hkPl.map (fun q => q.2)).sum := by
      unfold hkNS
      have h5 := List.take_append_drop (hkNX t') hkPl
      have h6 : (hkPl.map (fun q => q.2)).sum = ((hkPl.take (hkNX t')).map (fun q => q.2)).sum + ((hkPl.drop (hkNX t')).map (fun q => q.2)).sum := by
        rw [← List.sum_append, ← List.map_append, h5]
      omega
    have h7 : (hkPl.map (fun q => q.2)).sum ≤ room_1.slots := by decide +kernel
    omega
  have hempty : hkWs (fun _ => 0) (fun _ => 0) 0 (hkG0 L xs) = [] := by
    unfold hkWs; rw [hnx]; rfl
  have K := hkAll n d 184 _ _ _ _ hrun p l e room_1 s m #[Value.ref b] below meth c (lw_Z below #[Value.ref b] s) (fun k => (f k).1) (fun k => (f k).2) True b (fun q => s.heap.size ≤ q) (fun _ => 0) 0 hF (by show d + 1 ≤ 2048; omega) (by show 64 * (d + 1) ≤ 84000; omega) (by show hkNX t' - hkNX 0 ≤ 600000; omega) h2 hret
    s.heap [] (fun _ => 0) (fun _ => 0) [] lsA ⟨by simp only; rw [hempty]; exact fun k q h => by simp at h, hK, by simp only; rw [hempty]; exact ⟨fun i j p q h => by simp at h, fun k q h => by simp at h⟩, va_S.rf, fun z hz => absurd hz (by show ¬ z < hkNX 0; omega), ⟨fun z k hz => absurd hz (by show ¬ z < hkNX 0; omega), fun z k _ => ?_⟩, hl, hlen, hkEnt_ok (fun v hv => ?_), fun v hv => (List.not_mem_nil hv).elim, Nat.le_refl _, Nat.zero_le _, fun _ _ => rfl, fun _ L' xs' hX' => ?_⟩
  · simp only [hnx, hns, Nat.sub_self] at K
    exact K
  · show (if (z : Int) = -2 then (L : Int) else if (z : Int) = -1 then (xs ((k : Int)).toNat).toInt else 0) = 0
    rw [if_neg (by omega), if_neg (by omega)]
  · simp only [List.mem_cons, List.mem_nil_iff, or_false] at hv
    subst hv
    exact Or.inr (Or.inr (Or.inr ⟨rfl, trivial⟩))
  · obtain ⟨scr, k1, k2, k3, k4, k5⟩ := hX
    obtain ⟨scr', k1', k2', k3', k4', k5'⟩ := hX'
    rw [k1] at k1'
    cases k1'
    have hLL : L = L' := by rw [← k4, ← k4']
    subst hLL
    refine ⟨rfl, by omega, fun j hj => ?_⟩
    have e1 := k5 j hj
    rw [k5' j hj] at e1
    have e2 : xs' j = xs j := by simpa using e1
    show (if (-1 : Int) = -2 then (L : Int) else if (-1 : Int) = -1 then (xs ((j : Int)).toNat).toInt else 0) = _
    rw [if_neg (by decide), if_pos rfl, e2, Int.toNat_natCast]
end
section
/-! the pure machine's own rules: what a point comes to -/
theorem hkRun_succ : ∀ (n d y : Nat) (c : hkC) (r : Option hkV × Nat × hkG), hkRun n d y c = some r → hkRun (n + 1) d y c = some r := by
  intro n
  induction n with
  | zero => intro d y c r h; simp [hkRun] at h
  | succ n ih =>
    intro d y c r h
    unfold hkRun at h ⊢
    split at h
    · cases h
    · rename_i i len hf
      split at h
      · cases h
      · rename_i q hq
        exact ih _ _ _ _ h
      · rename_i y' as pc' ls' st' hq
        split at h
        · cases h
        · rename_i d'
          split at h
          · cases h
          · rename_i r' t' g' hr
            simp only [ih _ _ _ _ hr]
            exact ih _ _ _ _ h
      · rename_i r' hq
        exact h
theorem hkRun_le {n m d y : Nat} {c : hkC} {r : Option hkV × Nat × hkG} (h : hkRun n d y c = some r) (hm : n ≤ m) : hkRun m d y c = some r := by
  obtain ⟨k, rfl⟩ := Nat.le.dest hm
  induction k with
  | zero => exact h
  | succ k ih => exact hkRun_succ _ _ _ _ _ (ih (Nat.le_add_right _ _))
theorem hkRun_deep : ∀ (n d y : Nat) (c : hkC) (r : Option hkV × Nat × hkG), hkRun n d y c = some r → ∀ e, d ≤ e → hkRun n e y c = some r := by
  intro n
  induction n with
  | zero => intro d y c r h; simp [hkRun] at h
  | succ n ih =>
    intro d y c r h e he
    unfold hkRun at h ⊢
    split at h
    · cases h
    · rename_i i len hf
      split at h
      · cases h
      · rename_i q hq
        exact ih _ _ _ _ h e he
      · rename_i y' as pc' ls' st' hq
        split at h
        · cases h
        · rename_i d'
          split at h
          · cases h
          · rename_i r' t' g' hr
            match e, he with
            | e' + 1, he =>
              simp only [ih _ _ _ _ hr e' (by omega)]
              exact ih _ _ _ _ h (e' + 1) he
      · rename_i r' hq
        exact h
theorem hkRun_one {n m d e y : Nat} {c : hkC} {r r' : Option hkV × Nat × hkG} (h : hkRun n d y c = some r) (h' : hkRun m e y c = some r') : r = r' := by
  have h1 := hkRun_deep _ _ _ _ _ (hkRun_le h (Nat.le_max_left n m)) (max d e) (Nat.le_max_left d e)
  have h2 := hkRun_deep _ _ _ _ _ (hkRun_le h' (Nat.le_max_right n m)) (max d e) (Nat.le_max_right d e)
  rw [h1] at h2
  exact Option.some.inj h2
/-- the pure machine comes from this point to an end with Q -/
def Xp (y d pc : Nat) (ls st : List hkV) (t : Nat) (g : hkG) (Q : Option hkV → Nat → hkG → Prop) : Prop := ∃ (n : Nat) (r : Option hkV) (t' : Nat) (g' : hkG), hkRun n d y (pc, ls, st, t, g) = some (r, t', g') ∧ Q r t' g'
/-- a method's run from its entry -/
def Ev (y d : Nat) (ls : List hkV) (t : Nat) (g : hkG) (r : Option hkV) (t' : Nat) (g' : hkG) : Prop := ∃ n, hkRun n d y (0, ls, [], t, g) = some (r, t', g')
theorem Ev_of {y d : Nat} {ls : List hkV} {t : Nat} {g : hkG} {r : Option hkV} {t' : Nat} {g' : hkG} (h : Xp y d 0 ls [] t g (fun r2 t2 g2 => r2 = r ∧ t2 = t' ∧ g2 = g')) : Ev y d ls t g r t' g' := by
  obtain ⟨n, r2, t2, g2, h1, rfl, rfl, rfl⟩ := h
  exact ⟨n, h1⟩
theorem Ev_ex {y d : Nat} {ls : List hkV} {t : Nat} {g : hkG} {P : Option hkV → Nat → hkG → Prop} (h : Xp y d 0 ls [] t g P) : ∃ r t' g', Ev y d ls t g r t' g' ∧ P r t' g' := by
  obtain ⟨n, r2, t2, g2, h1, h2⟩ := h
  exact ⟨r2, t2, g2, ⟨n, h1⟩, h2⟩
theorem Ev_deep {y d e : Nat} {ls : List hkV} {t : Nat} {g : hkG} {r : Option hkV} {t' : Nat} {g' : hkG} (h : Ev y d ls t g r t' g') (he : d ≤ e) : Ev y e ls t g r t' g' := by
  obtain ⟨n, h⟩ := h
  exact ⟨n, hkRun_deep _ _ _ _ _ h e he⟩
theorem Xp_ev {y d e : Nat} {ls : List hkV} {t : Nat} {g : hkG} {r : Option hkV} {t' : Nat} {g' : hkG} {Q : Option hkV → Nat → hkG → Prop} (h : Ev y d ls t g r t' g') (he : d ≤ e) : Xp y e 0 ls [] t g Q = Q r t' g' := by
  obtain ⟨n, h⟩ := Ev_deep h he
  apply propext
  constructor
  · rintro ⟨m, r2, t2, g2, h2, hq⟩
    have := hkRun_one h h2
    simp only [Prod.mk.injEq] at this
    obtain ⟨rfl, rfl, rfl⟩ := this
    exact hq
  · intro hq
    exact ⟨n, r, t', g', h, hq⟩
theorem Xp_mono {y d pc : Nat} {ls st : List hkV} {t : Nat} {g : hkG} {Q Q' : Option hkV → Nat → hkG → Prop} (h : Xp y d pc ls st t g Q) (hq : ∀ r t' g', Q r t' g' → Q' r t' g') : Xp y d pc ls st t g Q' := by
  obtain ⟨n, r, t', g', h1, h2⟩ := h
  exact ⟨n, r, t', g', h1, hq _ _ _ h2⟩
theorem Xp_deep {y d e pc : Nat} {ls st : List hkV} {t : Nat} {g : hkG} {Q : Option hkV → Nat → hkG → Prop} (h : Xp y d pc ls st t g Q) (he : d ≤ e) : Xp y e pc ls st t g Q := by
  obtain ⟨n, r, t', g', h1, h2⟩ := h
  exact ⟨n, r, t', g', hkRun_deep _ _ _ _ _ h1 e he, h2⟩
section XR
variable {y d pc len : Nat} {ls st : List hkV} {t : Nat} {g : hkG} {Q : Option hkV → Nat → hkG → Prop} {i : Instr}
theorem Xp_go {pc' : Nat} {ls' st' : List hkV} {t' : Nat} {g' : hkG} (hf : hkFetch y pc = some (i, len)) (hp : hkPx y i len (pc, ls, st, t, g) = hkGo pc' ls' st' t' g') : Xp y d pc ls st t g Q = Xp y d pc' ls' st' t' g' Q := by
  apply propext
  constructor
  · rintro ⟨n, r, t2, g2, h, hq⟩
    cases n with
    | zero => simp [hkRun] at h
    | succ n =>
      unfold hkRun at h
      simp only [hf, hp, hkGo] at h
      exact ⟨n, r, t2, g2, h, hq⟩
  · rintro ⟨n, r, t2, g2, h, hq⟩
    refine ⟨n + 1, r, t2, g2, ?_, hq⟩
    unfold hkRun
    simp only [hf, hp, hkGo]
    exact h
theorem Xp_none (hf : hkFetch y pc = some (i, len)) (hp : hkPx y i len (pc, ls, st, t, g) = none) : Xp y d pc ls st t g Q = False := by
  apply propext
  refine ⟨?_, fun h => h.elim⟩
  rintro ⟨n, r, t2, g2, h, hq⟩
  cases n with
  | zero => simp [hkRun] at h
  | succ n =>
    unfold hkRun at h
    simp [hf, hp] at h
theorem Xp_chk {cd : Prop} {pc' : Nat} {ls' st' : List hkV} {t' : Nat} {g' : hkG} (hf : hkFetch y pc = some (i, len)) (hp : hkPx y i len (pc, ls, st, t, g) = hkChk cd (hkGo pc' ls' st' t' g')) : Xp y d pc ls st t g Q = (cd ∧ Xp y d pc' ls' st' t' g' Q) := by
  by_cases hc : cd
  · rw [Xp_go hf (hp.trans (by unfold hkChk; rw [if_pos hc]))]
    simp [hc]
  · rw [Xp_none hf (hp.trans (by unfold hkChk; rw [if_neg hc]))]
    simp [hc]
theorem Xp_br {cd : Prop} {pc1 pc2 : Nat} {ls' st' : List hkV} {t' : Nat} {g' : hkG} (hf : hkFetch y pc = some (i, len)) (hp : hkPx y i len (pc, ls, st, t, g) = hkBr cd (hkGo pc1 ls' st' t' g') (hkGo pc2 ls' st' t' g')) : Xp y d pc ls st t g Q = ((cd → Xp y d pc1 ls' st' t' g' Q) ∧ (¬ cd → Xp y d pc2 ls' st' t' g' Q)) := by
  by_cases hc : cd
  · rw [Xp_go hf (hp.trans (by unfold hkBr; rw [if_pos hc]))]
    simp [hc]
  · rw [Xp_go hf (hp.trans (by unfold hkBr; rw [if_neg hc]))]
    simp [hc]
theorem Xp_call {y' pc' : Nat} {as ls' st' : List hkV} (hf : hkFetch y pc = some (i, len)) (hp : hkPx y i len (pc, ls, st, t, g) = some (.inr (.inl (y', as, pc', ls', st')))) : Xp y (d + 1) pc ls st t g Q = Xp y' d 0 (hkEnt (hkX y') as) [] t g (fun r t' g' => Xp y (d + 1) pc' ls' (hkPush r st') t' g' Q) := by
  apply propext
  constructor
  · rintro ⟨n, r, t2, g2, h, hq⟩
    cases n with
    | zero => simp [hkRun] at h
    | succ n =>
      unfold hkRun at h
      simp only [hf, hp] at h
      split at h
      · cases h
      · rename_i r' t' g' hr
        exact ⟨n, r', t', g', hr, n, r, t2, g2, h, hq⟩
  · rintro ⟨n, r', t', g', hr, m, r, t2, g2, h, hq⟩
    refine ⟨max n m + 1, r, t2, g2, ?_, hq⟩
    unfold hkRun
    simp only [hf, hp, hkRun_le hr (Nat.le_max_left n m), hkRun_le h (Nat.le_max_right n m)]
theorem Xp_ret {r : Option hkV} (hf : hkFetch y pc = some (i, len)) (hp : hkPx y i len (pc, ls, st, t, g) = some (.inr (.inr r))) : Xp y d pc ls st t g Q = Q r t g := by
  apply propext
  constructor
  · rintro ⟨n, r', t2, g2, h, hq⟩
    cases n with
    | zero => simp [hkRun] at h
    | succ n =>
      unfold hkRun at h
      simp only [hf, hp, Option.some.injEq, Prod.mk.injEq] at h
      obtain ⟨rfl, rfl, rfl⟩ := h
      exact hq
  · intro hq
    refine ⟨1, r, t, g, ?_, hq⟩
    unfold hkRun
    simp only [hf, hp]
end XR
end
section
/-! rules of the kinds of instruction that look into the tables -/
def jA (p : Int) (k : Nat) : Nat := hkAT p.toNat k
def jR (p : Int) (k : Nat) : Int := ((hkRF p.toNat k : Nat) : Int)
def jL (p : Int) : Int := ((hkLn p.toNat : Nat) : Int)
def jAi (p i : Int) : Nat := hkAT p.toNat i.toNat
def jRi (p i : Int) : Int := ((hkRF p.toNat i.toNat : Nat) : Int)
def hkC8 (st : List hkV) : Prop := (st.map hkCat).sum ≤ 8
section XR
variable {y d pc len : Nat} {ls st : List hkV} {t : Nat} {g : hkG} {Q : Option hkV → Nat → hkG → Prop} {i : Instr} {p x v z w a b : Int} {ci k idx f : Nat}
theorem xr_getI (hf : hkFetch y pc = some (.getfield idx, 3)) (hk : hkFld (hkOwn y) idx = some (ci, k)) (h2 : hkFT ci k ≠ 2) : Xp y d pc ls ((2, p) :: st) t g Q = (hkJK p = ci ∧ Xp y d (pc + 3) ls ((0, g p k) :: st) t g Q) :=
  Xp_chk hf (by simp only [hkPx, hkGetf, hk]; rw [if_neg h2])
theorem xr_getR (hf : hkFetch y pc = some (.getfield idx, 3)) (hk : hkFld (hkOwn y) idx = some (ci, k)) (h2 : hkFT ci k = 2) : Xp y d pc ls ((2, p) :: st) t g Q = (hkJK p = ci ∧ jA p k ≤ t ∧ Xp y d (pc + 3) ls ((2, jR p k) :: st) t g Q) := by
  have hp : hkPx y (.getfield idx) 3 (pc, ls, (2, p) :: st, t, g) = hkChk (hkJK p = ci) (hkChk (hkAT p.toNat k ≤ t) (hkGo (pc + 3) ls ((2, (hkRF p.toNat k : Int)) :: st) t g)) := by
    simp only [hkPx, hkGetf, hk]; rw [if_pos h2]
  by_cases hc : hkJK p = ci
  · rw [Xp_chk hf (hp.trans (by unfold hkChk; rw [if_pos hc]))]
    simp only [hc, true_and]; rfl
  · rw [Xp_none hf (hp.trans (by unfold hkChk; rw [if_neg hc]))]
    simp [hc]
theorem xr_putI (hf : hkFetch y pc = some (.putfield idx, 3)) (hk : hkFld (hkOwn y) idx = some (ci, k)) (h2 : hkFT ci k = 0) : Xp y d pc ls ((0, x) :: (2, p) :: st) t g Q = (hkJK p = ci ∧ Xp y d (pc + 3) ls st t (hkSet g p k x) Q) :=
  Xp_chk hf (by simp only [hkPx, hkPutf, hk]; rw [if_pos h2])
theorem xr_putB (hf : hkFetch y pc = some (.putfield idx, 3)) (hk : hkFld (hkOwn y) idx = some (ci, k)) (h2 : hkFT ci k = 3) : Xp y d pc ls ((0, x) :: (2, p) :: st) t g Q = (hkJK p = ci ∧ (x = 0 ∨ x = 1) ∧ Xp y d (pc + 3) ls st t (hkSet g p k x) Q) := by
  have hp : hkPx y (.putfield idx) 3 (pc, ls, (0, x) :: (2, p) :: st, t, g) = hkChk (hkJK p = ci) (hkChk (x = 0 ∨ x = 1) (hkGo (pc + 3) ls st t (hkSet g p k x))) := by
    simp only [hkPx, hkPutf, hk]; rw [if_neg (by omega), if_pos h2]
  by_cases hc : hkJK p = ci
  · rw [Xp_chk hf (hp.trans (by unfold hkChk; rw [if_pos hc]))]
    simp only [hc, true_and]
  · rw [Xp_none hf (hp.trans (by unfold hkChk; rw [if_neg hc]))]
    simp [hc]
theorem xr_putR (hf : hkFetch y pc = some (.putfield idx, 3)) (hk : hkFld (hkOwn y) idx = some (ci, k)) (h2 : hkFT ci k = 2) (ho : hkOwn y = ci) (hn : (hkN y).name = "<init>") : Xp y d pc ls ((2, v) :: (2, p) :: st) t g Q = (hkJK p = ci ∧ hkEV[t]? = some (1, p.toNat, k, v.toNat) ∧ Xp y d (pc + 3) ls st (t + 1) g Q) := by
  rw [Xp_chk hf (by simp only [hkPx, hkPutf, hk]; rw [if_pos h2])]
  simp only [ho, hn, true_and, and_assoc]
theorem xr_new (hf : hkFetch y pc = some (.new idx, 3)) (hk : hkCls (hkOwn y) idx = some ci) (h2 : ci < 11) : Xp y d pc ls st t g Q = (∃ P z w, hkEV[t]? = some (0, P, z, w) ∧ hkKd P = ci ∧ Xp y d (pc + 3) ls ((2, (P : Int)) :: st) (t + 1) g Q) := by
  have hp : hkPx y (.new idx) 3 (pc, ls, st, t, g) = hkNew ci (pc + 3) none ls st t g := by
    simp only [hkPx, hk]; rw [if_pos h2]
  unfold hkNew at hp
  split at hp
  · rename_i P z w hE
    rw [Xp_chk hf hp]
    simp [hE]
  · rename_i hE
    rw [Xp_none hf hp]
    apply propext
    refine ⟨fun h => h.elim, ?_⟩
    rintro ⟨P, z, w, h, -⟩
    exact (hE P z w h).elim
theorem xr_newa {ty : ArrayType} (hf : hkFetch y pc = some (.newarray ty, 2)) (h2 : hkAtC ty = ci) (h3 : ci < 200) : Xp y d pc ls ((0, x) :: st) t g Q = (∃ P z w, hkEV[t]? = some (0, P, z, w) ∧ hkKd P = ci ∧ x = jL (P : Int) ∧ Xp y d (pc + 2) ls ((2, (P : Int)) :: st) (t + 1) g Q) := by
  have hp : hkPx y (.newarray ty) 2 (pc, ls, (0, x) :: st, t, g) = hkNew ci (pc + 2) (some x) ls st t g := by
    simp only [hkPx]; rw [if_pos (by omega), h2]
  unfold hkNew at hp
  split at hp
  · rename_i P z w hE
    rw [Xp_chk hf hp]
    simp [hE, jL, and_assoc]
  · rename_i hE
    rw [Xp_none hf hp]
    apply propext
    refine ⟨fun h => h.elim, ?_⟩
    rintro ⟨P, z, w, h, -⟩
    exact (hE P z w h).elim
theorem xr_newq (hf : hkFetch y pc = some (.anewarray idx, 3)) (hk : hkCls (hkOwn y) idx = some f) (h2 : (f = 7 ∧ ci = 103) ∨ (f = 9 ∧ ci = 104)) : Xp y d pc ls ((0, x) :: st) t g Q = (∃ P z w, hkEV[t]? = some (0, P, z, w) ∧ hkKd P = ci ∧ x = jL (P : Int) ∧ Xp y d (pc + 3) ls ((2, (P : Int)) :: st) (t + 1) g Q) := by
  have hp : hkPx y (.anewarray idx) 3 (pc, ls, (0, x) :: st, t, g) = hkNew ci (pc + 3) (some x) ls st t g := by
    rcases h2 with ⟨rfl, rfl⟩ | ⟨rfl, rfl⟩ <;> simp only [hkPx, hk]
  unfold hkNew at hp
  split at hp
  · rename_i P z w hE
    rw [Xp_chk hf hp]
    simp [hE, jL, and_assoc]
  · rename_i hE
    rw [Xp_none hf hp]
    apply propext
    refine ⟨fun h => h.elim, ?_⟩
    rintro ⟨P, z, w, h, -⟩
    exact (hE P z w h).elim
theorem xr_ldc (hf : hkFetch y pc = some (.ldc idx, 2)) (hk : hkCst (hkOwn y) idx = some v) : Xp y d pc ls st t g Q = Xp y d (pc + 2) ls ((0, v) :: st) t g Q := Xp_go hf (by simp only [hkPx, hk])
theorem xr_ldcw (hf : hkFetch y pc = some (.ldc_w idx, 3)) (hk : hkCst (hkOwn y) idx = some v) : Xp y d pc ls st t g Q = Xp y d (pc + 3) ls ((0, v) :: st) t g Q := Xp_go hf (by simp only [hkPx, hk])
theorem xr_ldc2 (hf : hkFetch y pc = some (.ldc2_w idx, 3)) (hk : hkCsl (hkOwn y) idx = some v) : Xp y d pc ls st t g Q = Xp y d (pc + 3) ls ((1, v) :: st) t g Q := Xp_go hf (by simp only [hkPx, hk])
theorem xr_const {c v : Int} (hf : hkFetch y pc = some (.iconst c, 1)) (hv : hkW c = v) : Xp y d pc ls st t g Q = Xp y d (pc + 1) ls ((0, v) :: st) t g Q := Xp_go hf (by rw [← hv]; rfl)
theorem xr_bi {c v : Int} (hf : hkFetch y pc = some (.bipush c, 2)) (hv : Int.bmod c 256 = v) : Xp y d pc ls st t g Q = Xp y d (pc + 2) ls ((0, v) :: st) t g Q := Xp_go hf (by rw [← hv]; rfl)
theorem xr_si {c v : Int} (hf : hkFetch y pc = some (.sipush c, 3)) (hv : Int.bmod c 65536 = v) : Xp y d pc ls st t g Q = Xp y d (pc + 3) ls ((0, v) :: st) t g Q := Xp_go hf (by rw [← hv]; rfl)
theorem xr_if1 {cd : ClassFile.Cond} {off : Int} {tgt : Nat} (hf : hkFetch y pc = some (.ifCond cd off, 3)) (ht : (pc : Int) + off = tgt) : Xp y d pc ls ((0, a) :: st) t g Q = ((hkHolds cd a 0 → Xp y d tgt ls st t g Q) ∧ (¬ hkHolds cd a 0 → Xp y d (pc + 3) ls st t g Q)) :=
  Xp_br hf (by simp only [hkPx]; rw [if_pos (by omega), show ((pc : Int) + off).toNat = tgt from by omega])
theorem xr_if2 {cd : ClassFile.Cond} {off : Int} {tgt : Nat} (hf : hkFetch y pc = some (.if_icmp cd off, 3)) (ht : (pc : Int) + off = tgt) : Xp y d pc ls ((0, b) :: (0, a) :: st) t g Q = ((hkHolds cd a b → Xp y d tgt ls st t g Q) ∧ (¬ hkHolds cd a b → Xp y d (pc + 3) ls st t g Q)) :=
  Xp_br hf (by simp only [hkPx]; rw [if_pos (by omega), show ((pc : Int) + off).toNat = tgt from by omega])
theorem xh_eq : hkHolds .eq a b = (a = b) := rfl
theorem xh_ne : hkHolds .ne a b = ¬ (a = b) := rfl
theorem xh_lt : hkHolds .lt a b = (a < b) := rfl
theorem xh_ge : hkHolds .ge a b = (b ≤ a) := rfl
theorem xh_gt : hkHolds .gt a b = (b < a) := rfl
theorem xh_le : hkHolds .le a b = (a ≤ b) := rfl
theorem xr_goto {off : Int} {tgt : Nat} (hf : hkFetch y pc = some (.goto off, 3)) (ht : (pc : Int) + off = tgt) : Xp y d pc ls st t g Q = Xp y d tgt ls st t g Q :=
  Xp_go hf (by simp only [hkPx, hkTgt]; rw [if_pos (by omega), show ((pc : Int) + off).toNat = tgt from by omega])
theorem xr_sw {dflt lo hi : Int} {offs : Array Int} {tgt : Nat} {off : Int} (hf : hkFetch y pc = some (.tableswitch dflt lo hi offs, len)) (hs : hkSw a dflt lo hi offs = some off) (ht : (pc : Int) + off = tgt) : Xp y d pc ls ((0, a) :: st) t g Q = Xp y d tgt ls st t g Q :=
  Xp_go hf (by simp only [hkPx, hs, hkTgt]; rw [if_pos (by omega), show ((pc : Int) + off).toNat = tgt from by omega])
theorem xr_swd {dflt lo hi : Int} {offs : Array Int} {tgt : Nat} (hf : hkFetch y pc = some (.tableswitch dflt lo hi offs, len)) (hs : a < lo ∨ hi < a) (ht : (pc : Int) + dflt = tgt) : Xp y d pc ls ((0, a) :: st) t g Q = Xp y d tgt ls st t g Q :=
  xr_sw hf (off := dflt) (by unfold hkSw; rw [if_pos hs]) ht
theorem xr_inv2 {cd : Prop} {y' pc' : Nat} {as rest : List hkV} {n : Nat} {en : List hkV} (hf : hkFetch y pc = some (i, len)) (hp : hkPx y i len (pc, ls, st, t, g) = hkChk cd (if (rest.map hkCat).sum ≤ 8 then some (.inr (.inl (y', as, pc', ls, rest))) else none)) (he : hkEnt (hkX y') as = en) : Xp y (d + 1) pc ls st t g Q = (cd ∧ hkC8 rest ∧ Xp y' d 0 en [] t g (fun r t' g' => Xp y (d + 1) pc' ls (hkPush r rest) t' g' Q)) := by
  subst he
  by_cases hc : cd
  · by_cases h8 : (rest.map hkCat).sum ≤ 8
    · rw [Xp_call hf (hp.trans (by unfold hkChk; rw [if_pos hc, if_pos h8]))]
      simp [hc, hkC8, h8]
    · rw [Xp_none hf (hp.trans (by unfold hkChk; rw [if_pos hc, if_neg h8]))]
      simp [hkC8, h8]
  · rw [Xp_none hf (hp.trans (by unfold hkChk; rw [if_neg hc]))]
    simp [hc]
theorem xr_invV {y' : Nat} {as rest en : List hkV} {o : Int} {tg : List Nat} (hf : hkFetch y pc = some (.invokevirtual idx, 3)) (hfi : hkFind hkCT0 (hkOwn y) idx = some y') (ho : hkOwn y' = ci) (htg : hkTg y' = tg) (hpop : hkPop tg.reverse st = some (as, rest)) (hh : hkFst as = o) (he : hkEnt (hkX y') as = en) : Xp y (d + 1) pc ls st t g Q = (hkJK o = ci ∧ hkC8 rest ∧ Xp y' d 0 en [] t g (fun r t' g' => Xp y (d + 1) (pc + 3) ls (hkPush r rest) t' g' Q)) := by
  subst htg
  exact xr_inv2 (n := 0) hf (by simp only [hkPx, hfi, hkInvV, hpop, ho, hh]) he
theorem xr_invP {y' : Nat} {as rest en : List hkV} {tg : List Nat} (hf : hkFetch y pc = some (.invokespecial idx, 3)) (hfi : hkFind hkCT1 (hkOwn y) idx = some y' ∨ (hkFind hkCT1 (hkOwn y) idx = none ∧ hkFind hkCT3 (hkOwn y) idx = some y')) (htg : hkTg y' = tg) (hpop : hkPop tg.reverse st = some (as, rest)) (he : hkEnt (hkX y') as = en) : Xp y (d + 1) pc ls st t g Q = (hkC8 rest ∧ Xp y' d 0 en [] t g (fun r t' g' => Xp y (d + 1) (pc + 3) ls (hkPush r rest) t' g' Q)) := by
  subst htg
  rw [xr_inv2 (n := 0) (cd := True) (rest := rest) (pc' := pc + 3) (y' := y') (as := as) hf (by rcases hfi with h | ⟨h1, h2⟩ <;> simp [hkPx, *, hkInv, hpop, hkChk]) he]
  simp
theorem xr_invS {y' : Nat} {as rest en : List hkV} {tg : List Nat} (hf : hkFetch y pc = some (.invokestatic idx, 3)) (hfi : hkFind hkCT2 (hkOwn y) idx = some y') (htg : hkTg y' = tg) (hpop : hkPop tg.reverse st = some (as, rest)) (he : hkEnt (hkX y') as = en) : Xp y (d + 1) pc ls st t g Q = (hkC8 rest ∧ Xp y' d 0 en [] t g (fun r t' g' => Xp y (d + 1) (pc + 3) ls (hkPush r rest) t' g' Q)) := by
  subst htg
  rw [xr_inv2 (n := 0) (cd := True) (rest := rest) (pc' := pc + 3) (y' := y') (as := as) hf (by simp [hkPx, hfi, hkInv, hpop, hkChk]) he]
  simp
theorem xr_obj (hf : hkFetch y pc = some (.invokespecial idx, 3)) (h1 : hkFind hkCT1 (hkOwn y) idx = none) (h3 : hkFind hkCT3 (hkOwn y) idx = none) (h4 : hkFind hkCT4 (hkOwn y) idx = some f) : Xp y d pc ls ((2, p) :: st) t g Q = (hkC8 st ∧ Xp y d (pc + 3) ls st t g Q) := by
  by_cases h8 : (st.map hkCat).sum ≤ 8
  · rw [Xp_go hf (by simp only [hkPx, h1, h3, h4]; rw [if_pos h8])]
    simp [hkC8, h8]
  · rw [Xp_none hf (by simp only [hkPx, h1, h3, h4]; rw [if_neg h8])]
    simp [hkC8, h8]
theorem xr_copy {q' i' j k' : Int} (hf : hkFetch y pc = some (.invokestatic idx, 3)) (h2 : hkFind hkCT2 (hkOwn y) idx = none) (h5 : hkFind hkCT5 (hkOwn y) idx = some f) : Xp y d pc ls ((0, k') :: (0, j) :: (2, q') :: (0, i') :: (2, p) :: st) t g Q = ((hkJK p = 100 ∧ hkJK q' = 100 ∧ 0 ≤ i' ∧ 0 ≤ j ∧ 0 ≤ k' ∧ i' + k' ≤ jL p ∧ j + k' ≤ jL q') ∧ hkC8 st ∧ Xp y d (pc + 3) ls st t (hkCpy g p i' q' j k') Q) := by
  have hp : hkPx y (.invokestatic idx) 3 (pc, ls, (0, k') :: (0, j) :: (2, q') :: (0, i') :: (2, p) :: st, t, g) = hkChk (hkJK p = 100 ∧ hkJK q' = 100 ∧ 0 ≤ i' ∧ 0 ≤ j ∧ 0 ≤ k' ∧ i' + k' ≤ jL p ∧ j + k' ≤ jL q') (if (st.map hkCat).sum ≤ 8 then hkGo (pc + 3) ls st t (hkCpy g p i' q' j k') else none) := by
    simp only [hkPx, h2, h5]; rfl
  by_cases h8 : (st.map hkCat).sum ≤ 8
  · rw [if_pos h8] at hp
    rw [Xp_chk hf hp]
    simp [hkC8, h8]
  · rw [if_neg h8] at hp
    rw [Xp_none hf (hp.trans (by unfold hkChk; split <;> rfl))]
    simp [hkC8, h8]
theorem xr_retI (hf : hkFetch y pc = some (.ireturn, 1)) (h : hkRt y = 0) : Xp y d pc ls [(0, x)] t g Q = Q (some (0, x)) t g := Xp_ret hf (by simp only [hkPx]; rw [if_pos h])
theorem xr_retZ (hf : hkFetch y pc = some (.ireturn, 1)) (h : hkRt y = 3) : Xp y d pc ls [(0, x)] t g Q = ((x = 0 ∨ x = 1) ∧ Q (some (0, x)) t g) := by
  by_cases hx : x = 0 ∨ x = 1
  · rw [Xp_ret hf (by simp only [hkPx]; rw [if_neg (by omega), if_pos h]; unfold hkChk; rw [if_pos hx])]
    simp [hx]
  · rw [Xp_none hf (by simp only [hkPx]; rw [if_neg (by omega), if_pos h]; unfold hkChk; rw [if_neg hx])]
    simp [hx]
theorem xr_retL (hf : hkFetch y pc = some (.lreturn, 1)) (h : hkRt y = 1) : Xp y d pc ls [(1, x)] t g Q = Q (some (1, x)) t g := Xp_ret hf (by simp only [hkPx]; rw [if_pos h])
theorem xr_retV (hf : hkFetch y pc = some (.return_, 1)) (h : hkRt y = 9) : Xp y d pc ls [] t g Q = Q none t g := Xp_ret hf (by simp only [hkPx]; rw [if_pos h])
end XR
end
section
/-! rows of the JDK and of Box, Rounder (by program: wip/whole/gen_rows.py) -/
section XROWS
variable {d t : Nat} {ls st : List hkV} {g : hkG} {Q : Option hkV → Nat → hkG → Prop} {v w v0 v1 v2 v3 v4 v5 v6 v7 v8 v9 v10 v11 v12 v13 v14 v15 : hkV} {a b x z p q a0 a1 a2 a3 a4 a5 a6 : Int}
-- 172: java/lang/Integer.compare(II)I
theorem x_172_0 : Xp 172 d 0 [(0, x), v1] st t g Q = Xp 172 d 1 [(0, x), v1] ((0, x) :: st) t g Q := Xp_go (i := .iload_n 0) (len := 1) (by decide +kernel) rfl
theorem x_172_1 : Xp 172 d 1 [v0, (0, x)] st t g Q = Xp 172 d 2 [v0, (0, x)] ((0, x) :: st) t g Q := Xp_go (i := .iload_n 1) (len := 1) (by decide +kernel) rfl
theorem x_172_2 : Xp 172 d 2 ls ((0, b) :: (0, a) :: st) t g Q = ((b ≤ a → Xp 172 d 9 ls st t g Q) ∧ (¬ (b ≤ a) → Xp 172 d 5 ls st t g Q)) := xr_if2 (cd := .ge) (off := 7) (by decide +kernel) (by decide)
theorem x_172_5 : Xp 172 d 5 ls st t g Q = Xp 172 d 6 ls ((0, -1) :: st) t g Q := xr_const (c := -1) (by decide +kernel) (by decide)
theorem x_172_6 : Xp 172 d 6 ls st t g Q = Xp 172 d 19 ls st t g Q := xr_goto (off := 13) (by decide +kernel) (by decide)
theorem x_172_9 : Xp 172 d 9 [(0, x), v1] st t g Q = Xp 172 d 10 [(0, x), v1] ((0, x) :: st) t g Q := Xp_go (i := .iload_n 0) (len := 1) (by decide +kernel) rfl
theorem x_172_10 : Xp 172 d 10 [v0, (0, x)] st t g Q = Xp 172 d 11 [v0, (0, x)] ((0, x) :: st) t g Q := Xp_go (i := .iload_n 1) (len := 1) (by decide +kernel) rfl
theorem x_172_11 : Xp 172 d 11 ls ((0, b) :: (0, a) :: st) t g Q = ((¬ (a = b) → Xp 172 d 18 ls st t g Q) ∧ (¬ (¬ (a = b)) → Xp 172 d 14 ls st t g Q)) := xr_if2 (cd := .ne) (off := 7) (by decide +kernel) (by decide)
theorem x_172_14 : Xp 172 d 14 ls st t g Q = Xp 172 d 15 ls ((0, 0) :: st) t g Q := xr_const (c := 0) (by decide +kernel) (by decide)
theorem x_172_15 : Xp 172 d 15 ls st t g Q = Xp 172 d 19 ls st t g Q := xr_goto (off := 4) (by decide +kernel) (by decide)
theorem x_172_18 : Xp 172 d 18 ls st t g Q = Xp 172 d 19 ls ((0, 1) :: st) t g Q := xr_const (c := 1) (by decide +kernel) (by decide)
theorem x_172_19 : Xp 172 d 19 ls [(0, x)] t g Q = Q (some (0, x)) t g := xr_retI (by decide +kernel) (by decide +kernel)
-- 173: java/lang/Integer.bitCount(I)I
theorem x_173_0 : Xp 173 d 0 [(0, x)] st t g Q = Xp 173 d 1 [(0, x)] ((0, x) :: st) t g Q := Xp_go (i := .iload_n 0) (len := 1) (by decide +kernel) rfl
theorem x_173_1 : Xp 173 d 1 [(0, x)] st t g Q = Xp 173 d 2 [(0, x)] ((0, x) :: st) t g Q := Xp_go (i := .iload_n 0) (len := 1) (by decide +kernel) rfl
theorem x_173_2 : Xp 173 d 2 ls st t g Q = Xp 173 d 3 ls ((0, 1) :: st) t g Q := xr_const (c := 1) (by decide +kernel) (by decide)
theorem x_173_3 : Xp 173 d 3 ls ((0, b) :: (0, a) :: st) t g Q = Xp 173 d 4 ls ((0, hkUsh a b) :: st) t g Q := Xp_go (i := .iushr) (len := 1) (by decide +kernel) rfl
theorem x_173_4 : Xp 173 d 4 ls st t g Q = Xp 173 d 7 ls ((0, 1431655765) :: st) t g Q := xr_ldcw (idx := 265) (by decide +kernel) (by decide +kernel)
theorem x_173_7 : Xp 173 d 7 ls ((0, b) :: (0, a) :: st) t g Q = Xp 173 d 8 ls ((0, hkAnd a b) :: st) t g Q := Xp_go (i := .iand) (len := 1) (by decide +kernel) rfl
theorem x_173_8 : Xp 173 d 8 ls ((0, b) :: (0, a) :: st) t g Q = Xp 173 d 9 ls ((0, hkW (a - b)) :: st) t g Q := Xp_go (i := .isub) (len := 1) (by decide +kernel) rfl
theorem x_173_9 : Xp 173 d 9 [v0] ((0, x) :: st) t g Q = (Xp 173 d 10 [(0, x)] st t g Q) := (Xp_chk (cd := True) (i := .istore_n 0) (len := 1) (by decide +kernel) rfl).trans (true_and _)
theorem x_173_10 : Xp 173 d 10 [(0, x)] st t g Q = Xp 173 d 11 [(0, x)] ((0, x) :: st) t g Q := Xp_go (i := .iload_n 0) (len := 1) (by decide +kernel) rfl
theorem x_173_11 : Xp 173 d 11 ls st t g Q = Xp 173 d 14 ls ((0, 858993459) :: st) t g Q := xr_ldcw (idx := 266) (by decide +kernel) (by decide +kernel)
theorem x_173_14 : Xp 173 d 14 ls ((0, b) :: (0, a) :: st) t g Q = Xp 173 d 15 ls ((0, hkAnd a b) :: st) t g Q := Xp_go (i := .iand) (len := 1) (by decide +kernel) rfl
theorem x_173_15 : Xp 173 d 15 [(0, x)] st t g Q = Xp 173 d 16 [(0, x)] ((0, x) :: st) t g Q := Xp_go (i := .iload_n 0) (len := 1) (by decide +kernel) rfl
theorem x_173_16 : Xp 173 d 16 ls st t g Q = Xp 173 d 17 ls ((0, 2) :: st) t g Q := xr_const (c := 2) (by decide +kernel) (by decide)
theorem x_173_17 : Xp 173 d 17 ls ((0, b) :: (0, a) :: st) t g Q = Xp 173 d 18 ls ((0, hkUsh a b) :: st) t g Q := Xp_go (i := .iushr) (len := 1) (by decide +kernel) rfl
theorem x_173_18 : Xp 173 d 18 ls st t g Q = Xp 173 d 21 ls ((0, 858993459) :: st) t g Q := xr_ldcw (idx := 266) (by decide +kernel) (by decide +kernel)
theorem x_173_21 : Xp 173 d 21 ls ((0, b) :: (0, a) :: st) t g Q = Xp 173 d 22 ls ((0, hkAnd a b) :: st) t g Q := Xp_go (i := .iand) (len := 1) (by decide +kernel) rfl
theorem x_173_22 : Xp 173 d 22 ls ((0, b) :: (0, a) :: st) t g Q = Xp 173 d 23 ls ((0, hkW (a + b)) :: st) t g Q := Xp_go (i := .iadd) (len := 1) (by decide +kernel) rfl
theorem x_173_23 : Xp 173 d 23 [v0] ((0, x) :: st) t g Q = (Xp 173 d 24 [(0, x)] st t g Q) := (Xp_chk (cd := True) (i := .istore_n 0) (len := 1) (by decide +kernel) rfl).trans (true_and _)
theorem x_173_24 : Xp 173 d 24 [(0, x)] st t g Q = Xp 173 d 25 [(0, x)] ((0, x) :: st) t g Q := Xp_go (i := .iload_n 0) (len := 1) (by decide +kernel) rfl
theorem x_173_25 : Xp 173 d 25 [(0, x)] st t g Q = Xp 173 d 26 [(0, x)] ((0, x) :: st) t g Q := Xp_go (i := .iload_n 0) (len := 1) (by decide +kernel) rfl
theorem x_173_26 : Xp 173 d 26 ls st t g Q = Xp 173 d 27 ls ((0, 4) :: st) t g Q := xr_const (c := 4) (by decide +kernel) (by decide)
theorem x_173_27 : Xp 173 d 27 ls ((0, b) :: (0, a) :: st) t g Q = Xp 173 d 28 ls ((0, hkUsh a b) :: st) t g Q := Xp_go (i := .iushr) (len := 1) (by decide +kernel) rfl
theorem x_173_28 : Xp 173 d 28 ls ((0, b) :: (0, a) :: st) t g Q = Xp 173 d 29 ls ((0, hkW (a + b)) :: st) t g Q := Xp_go (i := .iadd) (len := 1) (by decide +kernel) rfl
theorem x_173_29 : Xp 173 d 29 ls st t g Q = Xp 173 d 32 ls ((0, 252645135) :: st) t g Q := xr_ldcw (idx := 267) (by decide +kernel) (by decide +kernel)
theorem x_173_32 : Xp 173 d 32 ls ((0, b) :: (0, a) :: st) t g Q = Xp 173 d 33 ls ((0, hkAnd a b) :: st) t g Q := Xp_go (i := .iand) (len := 1) (by decide +kernel) rfl
theorem x_173_33 : Xp 173 d 33 [v0] ((0, x) :: st) t g Q = (Xp 173 d 34 [(0, x)] st t g Q) := (Xp_chk (cd := True) (i := .istore_n 0) (len := 1) (by decide +kernel) rfl).trans (true_and _)
theorem x_173_34 : Xp 173 d 34 [(0, x)] st t g Q = Xp 173 d 35 [(0, x)] ((0, x) :: st) t g Q := Xp_go (i := .iload_n 0) (len := 1) (by decide +kernel) rfl
theorem x_173_35 : Xp 173 d 35 [(0, x)] st t g Q = Xp 173 d 36 [(0, x)] ((0, x) :: st) t g Q := Xp_go (i := .iload_n 0) (len := 1) (by decide +kernel) rfl
theorem x_173_36 : Xp 173 d 36 ls st t g Q = Xp 173 d 38 ls ((0, 8) :: st) t g Q := xr_bi (c := 8) (by decide +kernel) (by decide)
theorem x_173_38 : Xp 173 d 38 ls ((0, b) :: (0, a) :: st) t g Q = Xp 173 d 39 ls ((0, hkUsh a b) :: st) t g Q := Xp_go (i := .iushr) (len := 1) (by decide +kernel) rfl
theorem x_173_39 : Xp 173 d 39 ls ((0, b) :: (0, a) :: st) t g Q = Xp 173 d 40 ls ((0, hkW (a + b)) :: st) t g Q := Xp_go (i := .iadd) (len := 1) (by decide +kernel) rfl
theorem x_173_40 : Xp 173 d 40 [v0] ((0, x) :: st) t g Q = (Xp 173 d 41 [(0, x)] st t g Q) := (Xp_chk (cd := True) (i := .istore_n 0) (len := 1) (by decide +kernel) rfl).trans (true_and _)
theorem x_173_41 : Xp 173 d 41 [(0, x)] st t g Q = Xp 173 d 42 [(0, x)] ((0, x) :: st) t g Q := Xp_go (i := .iload_n 0) (len := 1) (by decide +kernel) rfl
theorem x_173_42 : Xp 173 d 42 [(0, x)] st t g Q = Xp 173 d 43 [(0, x)] ((0, x) :: st) t g Q := Xp_go (i := .iload_n 0) (len := 1) (by decide +kernel) rfl
theorem x_173_43 : Xp 173 d 43 ls st t g Q = Xp 173 d 45 ls ((0, 16) :: st) t g Q := xr_bi (c := 16) (by decide +kernel) (by decide)
theorem x_173_45 : Xp 173 d 45 ls ((0, b) :: (0, a) :: st) t g Q = Xp 173 d 46 ls ((0, hkUsh a b) :: st) t g Q := Xp_go (i := .iushr) (len := 1) (by decide +kernel) rfl
theorem x_173_46 : Xp 173 d 46 ls ((0, b) :: (0, a) :: st) t g Q = Xp 173 d 47 ls ((0, hkW (a + b)) :: st) t g Q := Xp_go (i := .iadd) (len := 1) (by decide +kernel) rfl
theorem x_173_47 : Xp 173 d 47 [v0] ((0, x) :: st) t g Q = (Xp 173 d 48 [(0, x)] st t g Q) := (Xp_chk (cd := True) (i := .istore_n 0) (len := 1) (by decide +kernel) rfl).trans (true_and _)
theorem x_173_48 : Xp 173 d 48 [(0, x)] st t g Q = Xp 173 d 49 [(0, x)] ((0, x) :: st) t g Q := Xp_go (i := .iload_n 0) (len := 1) (by decide +kernel) rfl
theorem x_173_49 : Xp 173 d 49 ls st t g Q = Xp 173 d 51 ls ((0, 63) :: st) t g Q := xr_bi (c := 63) (by decide +kernel) (by decide)
theorem x_173_51 : Xp 173 d 51 ls ((0, b) :: (0, a) :: st) t g Q = Xp 173 d 52 ls ((0, hkAnd a b) :: st) t g Q := Xp_go (i := .iand) (len := 1) (by decide +kernel) rfl
theorem x_173_52 : Xp 173 d 52 ls [(0, x)] t g Q = Q (some (0, x)) t g := xr_retI (by decide +kernel) (by decide +kernel)
-- 174: java/lang/Math.min(II)I
theorem x_174_0 : Xp 174 d 0 [(0, x), v1] st t g Q = Xp 174 d 1 [(0, x), v1] ((0, x) :: st) t g Q := Xp_go (i := .iload_n 0) (len := 1) (by decide +kernel) rfl
theorem x_174_1 : Xp 174 d 1 [v0, (0, x)] st t g Q = Xp 174 d 2 [v0, (0, x)] ((0, x) :: st) t g Q := Xp_go (i := .iload_n 1) (len := 1) (by decide +kernel) rfl
theorem x_174_2 : Xp 174 d 2 ls ((0, b) :: (0, a) :: st) t g Q = ((b < a → Xp 174 d 9 ls st t g Q) ∧ (¬ (b < a) → Xp 174 d 5 ls st t g Q)) := xr_if2 (cd := .gt) (off := 7) (by decide +kernel) (by decide)
theorem x_174_5 : Xp 174 d 5 [(0, x), v1] st t g Q = Xp 174 d 6 [(0, x), v1] ((0, x) :: st) t g Q := Xp_go (i := .iload_n 0) (len := 1) (by decide +kernel) rfl
theorem x_174_6 : Xp 174 d 6 ls st t g Q = Xp 174 d 10 ls st t g Q := xr_goto (off := 4) (by decide +kernel) (by decide)
theorem x_174_9 : Xp 174 d 9 [v0, (0, x)] st t g Q = Xp 174 d 10 [v0, (0, x)] ((0, x) :: st) t g Q := Xp_go (i := .iload_n 1) (len := 1) (by decide +kernel) rfl
theorem x_174_10 : Xp 174 d 10 ls [(0, x)] t g Q = Q (some (0, x)) t g := xr_retI (by decide +kernel) (by decide +kernel)
-- 175: java/lang/Math.max(II)I
theorem x_175_0 : Xp 175 d 0 [(0, x), v1] st t g Q = Xp 175 d 1 [(0, x), v1] ((0, x) :: st) t g Q := Xp_go (i := .iload_n 0) (len := 1) (by decide +kernel) rfl
theorem x_175_1 : Xp 175 d 1 [v0, (0, x)] st t g Q = Xp 175 d 2 [v0, (0, x)] ((0, x) :: st) t g Q := Xp_go (i := .iload_n 1) (len := 1) (by decide +kernel) rfl
theorem x_175_2 : Xp 175 d 2 ls ((0, b) :: (0, a) :: st) t g Q = ((a < b → Xp 175 d 9 ls st t g Q) ∧ (¬ (a < b) → Xp 175 d 5 ls st t g Q)) := xr_if2 (cd := .lt) (off := 7) (by decide +kernel) (by decide)
theorem x_175_5 : Xp 175 d 5 [(0, x), v1] st t g Q = Xp 175 d 6 [(0, x), v1] ((0, x) :: st) t g Q := Xp_go (i := .iload_n 0) (len := 1) (by decide +kernel) rfl
theorem x_175_6 : Xp 175 d 6 ls st t g Q = Xp 175 d 10 ls st t g Q := xr_goto (off := 4) (by decide +kernel) (by decide)
theorem x_175_9 : Xp 175 d 9 [v0, (0, x)] st t g Q = Xp 175 d 10 [v0, (0, x)] ((0, x) :: st) t g Q := Xp_go (i := .iload_n 1) (len := 1) (by decide +kernel) rfl
theorem x_175_10 : Xp 175 d 10 ls [(0, x)] t g Q = Q (some (0, x)) t g := xr_retI (by decide +kernel) (by decide +kernel)
-- 176: java/lang/Math.floorMod(II)I
theorem x_176_0 : Xp 176 d 0 [(0, x), v1, v2] st t g Q = Xp 176 d 1 [(0, x), v1, v2] ((0, x) :: st) t g Q := Xp_go (i := .iload_n 0) (len := 1) (by decide +kernel) rfl
theorem x_176_1 : Xp 176 d 1 [v0, (0, x), v2] st t g Q = Xp 176 d 2 [v0, (0, x), v2] ((0, x) :: st) t g Q := Xp_go (i := .iload_n 1) (len := 1) (by decide +kernel) rfl
theorem x_176_2 : Xp 176 d 2 ls ((0, b) :: (0, a) :: st) t g Q = (b ≠ 0 ∧ Xp 176 d 3 ls ((0, a.tmod b) :: st) t g Q) := Xp_chk (i := .irem) (len := 1) (by decide +kernel) rfl
theorem x_176_3 : Xp 176 d 3 [v0, v1, v2] ((0, x) :: st) t g Q = (hkP1 v1 ∧ Xp 176 d 4 [v0, v1, (0, x)] st t g Q) := Xp_chk (i := .istore_n 2) (len := 1) (by decide +kernel) rfl
theorem x_176_4 : Xp 176 d 4 [(0, x), v1, v2] st t g Q = Xp 176 d 5 [(0, x), v1, v2] ((0, x) :: st) t g Q := Xp_go (i := .iload_n 0) (len := 1) (by decide +kernel) rfl
theorem x_176_5 : Xp 176 d 5 [v0, (0, x), v2] st t g Q = Xp 176 d 6 [v0, (0, x), v2] ((0, x) :: st) t g Q := Xp_go (i := .iload_n 1) (len := 1) (by decide +kernel) rfl
theorem x_176_6 : Xp 176 d 6 ls ((0, b) :: (0, a) :: st) t g Q = Xp 176 d 7 ls ((0, hkXor a b) :: st) t g Q := Xp_go (i := .ixor) (len := 1) (by decide +kernel) rfl
theorem x_176_7 : Xp 176 d 7 ls ((0, a) :: st) t g Q = ((0 ≤ a → Xp 176 d 18 ls st t g Q) ∧ (¬ (0 ≤ a) → Xp 176 d 10 ls st t g Q)) := xr_if1 (cd := .ge) (off := 11) (by decide +kernel) (by decide)
theorem x_176_10 : Xp 176 d 10 [v0, v1, (0, x)] st t g Q = Xp 176 d 11 [v0, v1, (0, x)] ((0, x) :: st) t g Q := Xp_go (i := .iload_n 2) (len := 1) (by decide +kernel) rfl
theorem x_176_11 : Xp 176 d 11 ls ((0, a) :: st) t g Q = ((a = 0 → Xp 176 d 18 ls st t g Q) ∧ (¬ (a = 0) → Xp 176 d 14 ls st t g Q)) := xr_if1 (cd := .eq) (off := 7) (by decide +kernel) (by decide)
theorem x_176_14 : Xp 176 d 14 [v0, v1, (0, x)] st t g Q = Xp 176 d 15 [v0, v1, (0, x)] ((0, x) :: st) t g Q := Xp_go (i := .iload_n 2) (len := 1) (by decide +kernel) rfl
theorem x_176_15 : Xp 176 d 15 [v0, (0, x), v2] st t g Q = Xp 176 d 16 [v0, (0, x), v2] ((0, x) :: st) t g Q := Xp_go (i := .iload_n 1) (len := 1) (by decide +kernel) rfl
theorem x_176_16 : Xp 176 d 16 ls ((0, b) :: (0, a) :: st) t g Q = Xp 176 d 17 ls ((0, hkW (a + b)) :: st) t g Q := Xp_go (i := .iadd) (len := 1) (by decide +kernel) rfl
theorem x_176_17 : Xp 176 d 17 ls [(0, x)] t g Q = Q (some (0, x)) t g := xr_retI (by decide +kernel) (by decide +kernel)
theorem x_176_18 : Xp 176 d 18 [v0, v1, (0, x)] st t g Q = Xp 176 d 19 [v0, v1, (0, x)] ((0, x) :: st) t g Q := Xp_go (i := .iload_n 2) (len := 1) (by decide +kernel) rfl
theorem x_176_19 : Xp 176 d 19 ls [(0, x)] t g Q = Q (some (0, x)) t g := xr_retI (by decide +kernel) (by decide +kernel)
-- 177: java/lang/Math.abs(J)J
theorem x_177_0 : Xp 177 d 0 [(1, x), v1] st t g Q = Xp 177 d 1 [(1, x), v1] ((1, x) :: st) t g Q := Xp_go (i := .lload_n 0) (len := 1) (by decide +kernel) rfl
theorem x_177_1 : Xp 177 d 1 ls st t g Q = Xp 177 d 2 ls ((1, 0) :: st) t g Q := Xp_go (i := .lconst 0) (len := 1) (by decide +kernel) rfl
theorem x_177_2 : Xp 177 d 2 ls ((1, b) :: (1, a) :: st) t g Q = Xp 177 d 3 ls ((0, hkCmp a b) :: st) t g Q := Xp_go (i := .lcmp) (len := 1) (by decide +kernel) rfl
theorem x_177_3 : Xp 177 d 3 ls ((0, a) :: st) t g Q = ((0 ≤ a → Xp 177 d 11 ls st t g Q) ∧ (¬ (0 ≤ a) → Xp 177 d 6 ls st t g Q)) := xr_if1 (cd := .ge) (off := 8) (by decide +kernel) (by decide)
theorem x_177_6 : Xp 177 d 6 [(1, x), v1] st t g Q = Xp 177 d 7 [(1, x), v1] ((1, x) :: st) t g Q := Xp_go (i := .lload_n 0) (len := 1) (by decide +kernel) rfl
theorem x_177_7 : Xp 177 d 7 ls ((1, a) :: st) t g Q = Xp 177 d 8 ls ((1, hkL (-a)) :: st) t g Q := Xp_go (i := .lneg) (len := 1) (by decide +kernel) rfl
theorem x_177_8 : Xp 177 d 8 ls st t g Q = Xp 177 d 12 ls st t g Q := xr_goto (off := 4) (by decide +kernel) (by decide)
theorem x_177_11 : Xp 177 d 11 [(1, x), v1] st t g Q = Xp 177 d 12 [(1, x), v1] ((1, x) :: st) t g Q := Xp_go (i := .lload_n 0) (len := 1) (by decide +kernel) rfl
theorem x_177_12 : Xp 177 d 12 ls [(1, x)] t g Q = Q (some (1, x)) t g := xr_retL (by decide +kernel) (by decide +kernel)
-- 178: java/lang/Math.abs(I)I
theorem x_178_0 : Xp 178 d 0 [(0, x)] st t g Q = Xp 178 d 1 [(0, x)] ((0, x) :: st) t g Q := Xp_go (i := .iload_n 0) (len := 1) (by decide +kernel) rfl
theorem x_178_1 : Xp 178 d 1 ls ((0, a) :: st) t g Q = ((0 ≤ a → Xp 178 d 9 ls st t g Q) ∧ (¬ (0 ≤ a) → Xp 178 d 4 ls st t g Q)) := xr_if1 (cd := .ge) (off := 8) (by decide +kernel) (by decide)
theorem x_178_4 : Xp 178 d 4 [(0, x)] st t g Q = Xp 178 d 5 [(0, x)] ((0, x) :: st) t g Q := Xp_go (i := .iload_n 0) (len := 1) (by decide +kernel) rfl
theorem x_178_5 : Xp 178 d 5 ls ((0, a) :: st) t g Q = Xp 178 d 6 ls ((0, hkW (-a)) :: st) t g Q := Xp_go (i := .ineg) (len := 1) (by decide +kernel) rfl
theorem x_178_6 : Xp 178 d 6 ls st t g Q = Xp 178 d 10 ls st t g Q := xr_goto (off := 4) (by decide +kernel) (by decide)
theorem x_178_9 : Xp 178 d 9 [(0, x)] st t g Q = Xp 178 d 10 [(0, x)] ((0, x) :: st) t g Q := Xp_go (i := .iload_n 0) (len := 1) (by decide +kernel) rfl
theorem x_178_10 : Xp 178 d 10 ls [(0, x)] t g Q = Q (some (0, x)) t g := xr_retI (by decide +kernel) (by decide +kernel)
-- 179: java/util/Arrays.fill([II)V
theorem x_179_0 : Xp 179 d 0 ls st t g Q = Xp 179 d 1 ls ((0, 0) :: st) t g Q := xr_const (c := 0) (by decide +kernel) (by decide)
theorem x_179_1 : Xp 179 d 1 [v0, v1, v2, v3] ((0, x) :: st) t g Q = (hkP1 v1 ∧ Xp 179 d 2 [v0, v1, (0, x), v3] st t g Q) := Xp_chk (i := .istore_n 2) (len := 1) (by decide +kernel) rfl
theorem x_179_2 : Xp 179 d 2 [(2, x), v1, v2, v3] st t g Q = Xp 179 d 3 [(2, x), v1, v2, v3] ((2, x) :: st) t g Q := Xp_go (i := .aload_n 0) (len := 1) (by decide +kernel) rfl
theorem x_179_3 : Xp 179 d 3 ls ((2, p) :: st) t g Q = ((100 ≤ hkJK p ∧ hkJK p ≤ 104) ∧ Xp 179 d 4 ls ((0, jL p) :: st) t g Q) := Xp_chk (i := .arraylength) (len := 1) (by decide +kernel) rfl
theorem x_179_4 : Xp 179 d 4 [v0, v1, v2, v3] ((0, x) :: st) t g Q = (hkP1 v2 ∧ Xp 179 d 5 [v0, v1, v2, (0, x)] st t g Q) := Xp_chk (i := .istore_n 3) (len := 1) (by decide +kernel) rfl
theorem x_179_5 : Xp 179 d 5 [v0, v1, (0, x), v3] st t g Q = Xp 179 d 6 [v0, v1, (0, x), v3] ((0, x) :: st) t g Q := Xp_go (i := .iload_n 2) (len := 1) (by decide +kernel) rfl
theorem x_179_6 : Xp 179 d 6 [v0, v1, v2, (0, x)] st t g Q = Xp 179 d 7 [v0, v1, v2, (0, x)] ((0, x) :: st) t g Q := Xp_go (i := .iload_n 3) (len := 1) (by decide +kernel) rfl
theorem x_179_7 : Xp 179 d 7 ls ((0, b) :: (0, a) :: st) t g Q = ((b ≤ a → Xp 179 d 20 ls st t g Q) ∧ (¬ (b ≤ a) → Xp 179 d 10 ls st t g Q)) := xr_if2 (cd := .ge) (off := 13) (by decide +kernel) (by decide)
theorem x_179_10 : Xp 179 d 10 [(2, x), v1, v2, v3] st t g Q = Xp 179 d 11 [(2, x), v1, v2, v3] ((2, x) :: st) t g Q := Xp_go (i := .aload_n 0) (len := 1) (by decide +kernel) rfl
theorem x_179_11 : Xp 179 d 11 [v0, v1, (0, x), v3] st t g Q = Xp 179 d 12 [v0, v1, (0, x), v3] ((0, x) :: st) t g Q := Xp_go (i := .iload_n 2) (len := 1) (by decide +kernel) rfl
theorem x_179_12 : Xp 179 d 12 [v0, (0, x), v2, v3] st t g Q = Xp 179 d 13 [v0, (0, x), v2, v3] ((0, x) :: st) t g Q := Xp_go (i := .iload_n 1) (len := 1) (by decide +kernel) rfl
theorem x_179_13 : Xp 179 d 13 ls ((0, x) :: (0, a) :: (2, p) :: st) t g Q = ((hkJK p = 100 ∧ (100 = 102 → x = 0 ∨ x = 1) ∧ 0 ≤ a ∧ a < jL p) ∧ Xp 179 d 14 ls st t (hkSet g p a x) Q) := Xp_chk (i := .iastore) (len := 1) (by decide +kernel) rfl
theorem x_179_14 : Xp 179 d 14 [v0, v1, (0, x), v3] st t g Q = (hkP1 v1 ∧ Xp 179 d 17 [v0, v1, (0, hkW (x + 1)), v3] st t g Q) := Xp_chk (i := .iinc 2 (1)) (len := 3) (by decide +kernel) rfl
theorem x_179_17 : Xp 179 d 17 ls st t g Q = Xp 179 d 5 ls st t g Q := xr_goto (off := -12) (by decide +kernel) (by decide)
theorem x_179_20 : Xp 179 d 20 ls [] t g Q = Q none t g := xr_retV (by decide +kernel) (by decide +kernel)
-- 180: java/util/Arrays.fill([IIII)V
theorem x_180_0 : Xp 180 d 0 [(2, x), v1, v2, v3, v4] st t g Q = Xp 180 d 1 [(2, x), v1, v2, v3, v4] ((2, x) :: st) t g Q := Xp_go (i := .aload_n 0) (len := 1) (by decide +kernel) rfl
theorem x_180_1 : Xp 180 d 1 ls ((2, p) :: st) t g Q = ((100 ≤ hkJK p ∧ hkJK p ≤ 104) ∧ Xp 180 d 2 ls ((0, jL p) :: st) t g Q) := Xp_chk (i := .arraylength) (len := 1) (by decide +kernel) rfl
theorem x_180_2 : Xp 180 d 2 [v0, (0, x), v2, v3, v4] st t g Q = Xp 180 d 3 [v0, (0, x), v2, v3, v4] ((0, x) :: st) t g Q := Xp_go (i := .iload_n 1) (len := 1) (by decide +kernel) rfl
theorem x_180_3 : Xp 180 d 3 [v0, v1, (0, x), v3, v4] st t g Q = Xp 180 d 4 [v0, v1, (0, x), v3, v4] ((0, x) :: st) t g Q := Xp_go (i := .iload_n 2) (len := 1) (by decide +kernel) rfl
theorem x_180_4 : Xp 180 (d + 1) 4 ls ((0, a2) :: (0, a1) :: (0, a0) :: st) t g Q = (hkC8 st ∧ Xp 181 d 0 [(0, a0), (0, a1), (0, a2)] [] t g (fun r t g => Xp 180 (d + 1) 7 ls (hkPush r st) t g Q)) := xr_invS (idx := 13) (y' := 181) (tg := [0, 0, 0]) (by decide +kernel) (by decide +kernel) (by decide +kernel) rfl rfl
theorem x_180_7 : Xp 180 d 7 [v0, (0, x), v2, v3, v4] st t g Q = Xp 180 d 8 [v0, (0, x), v2, v3, v4] ((0, x) :: st) t g Q := Xp_go (i := .iload_n 1) (len := 1) (by decide +kernel) rfl
theorem x_180_8 : Xp 180 d 8 [v0, v1, v2, v3, v4] ((0, x) :: st) t g Q = (hkP1 v3 ∧ Xp 180 d 10 [v0, v1, v2, v3, (0, x)] st t g Q) := Xp_chk (i := .istore 4) (len := 2) (by decide +kernel) rfl
theorem x_180_10 : Xp 180 d 10 [v0, v1, v2, v3, (0, x)] st t g Q = Xp 180 d 12 [v0, v1, v2, v3, (0, x)] ((0, x) :: st) t g Q := Xp_go (i := .iload 4) (len := 2) (by decide +kernel) rfl
theorem x_180_12 : Xp 180 d 12 [v0, v1, (0, x), v3, v4] st t g Q = Xp 180 d 13 [v0, v1, (0, x), v3, v4] ((0, x) :: st) t g Q := Xp_go (i := .iload_n 2) (len := 1) (by decide +kernel) rfl
theorem x_180_13 : Xp 180 d 13 ls ((0, b) :: (0, a) :: st) t g Q = ((b ≤ a → Xp 180 d 27 ls st t g Q) ∧ (¬ (b ≤ a) → Xp 180 d 16 ls st t g Q)) := xr_if2 (cd := .ge) (off := 14) (by decide +kernel) (by decide)
theorem x_180_16 : Xp 180 d 16 [(2, x), v1, v2, v3, v4] st t g Q = Xp 180 d 17 [(2, x), v1, v2, v3, v4] ((2, x) :: st) t g Q := Xp_go (i := .aload_n 0) (len := 1) (by decide +kernel) rfl
theorem x_180_17 : Xp 180 d 17 [v0, v1, v2, v3, (0, x)] st t g Q = Xp 180 d 19 [v0, v1, v2, v3, (0, x)] ((0, x) :: st) t g Q := Xp_go (i := .iload 4) (len := 2) (by decide +kernel) rfl
theorem x_180_19 : Xp 180 d 19 [v0, v1, v2, (0, x), v4] st t g Q = Xp 180 d 20 [v0, v1, v2, (0, x), v4] ((0, x) :: st) t g Q := Xp_go (i := .iload_n 3) (len := 1) (by decide +kernel) rfl
theorem x_180_20 : Xp 180 d 20 ls ((0, x) :: (0, a) :: (2, p) :: st) t g Q = ((hkJK p = 100 ∧ (100 = 102 → x = 0 ∨ x = 1) ∧ 0 ≤ a ∧ a < jL p) ∧ Xp 180 d 21 ls st t (hkSet g p a x) Q) := Xp_chk (i := .iastore) (len := 1) (by decide +kernel) rfl
theorem x_180_21 : Xp 180 d 21 [v0, v1, v2, v3, (0, x)] st t g Q = (hkP1 v3 ∧ Xp 180 d 24 [v0, v1, v2, v3, (0, hkW (x + 1))] st t g Q) := Xp_chk (i := .iinc 4 (1)) (len := 3) (by decide +kernel) rfl
theorem x_180_24 : Xp 180 d 24 ls st t g Q = Xp 180 d 10 ls st t g Q := xr_goto (off := -14) (by decide +kernel) (by decide)
theorem x_180_27 : Xp 180 d 27 ls [] t g Q = Q none t g := xr_retV (by decide +kernel) (by decide +kernel)
-- 181: java/util/Arrays.rangeCheck(III)V
theorem x_181_0 : Xp 181 d 0 [v0, (0, x), v2] st t g Q = Xp 181 d 1 [v0, (0, x), v2] ((0, x) :: st) t g Q := Xp_go (i := .iload_n 1) (len := 1) (by decide +kernel) rfl
theorem x_181_1 : Xp 181 d 1 [v0, v1, (0, x)] st t g Q = Xp 181 d 2 [v0, v1, (0, x)] ((0, x) :: st) t g Q := Xp_go (i := .iload_n 2) (len := 1) (by decide +kernel) rfl
theorem x_181_2 : Xp 181 d 2 ls ((0, b) :: (0, a) :: st) t g Q = ((a ≤ b → Xp 181 d 46 ls st t g Q) ∧ (¬ (a ≤ b) → Xp 181 d 5 ls st t g Q)) := xr_if2 (cd := .le) (off := 44) (by decide +kernel) (by decide)
theorem x_181_21 : Xp 181 d 21 [v0, (0, x), v2] st t g Q = Xp 181 d 22 [v0, (0, x), v2] ((0, x) :: st) t g Q := Xp_go (i := .iload_n 1) (len := 1) (by decide +kernel) rfl
theorem x_181_30 : Xp 181 d 30 [v0, v1, (0, x)] st t g Q = Xp 181 d 31 [v0, v1, (0, x)] ((0, x) :: st) t g Q := Xp_go (i := .iload_n 2) (len := 1) (by decide +kernel) rfl
theorem x_181_46 : Xp 181 d 46 [v0, (0, x), v2] st t g Q = Xp 181 d 47 [v0, (0, x), v2] ((0, x) :: st) t g Q := Xp_go (i := .iload_n 1) (len := 1) (by decide +kernel) rfl
theorem x_181_47 : Xp 181 d 47 ls ((0, a) :: st) t g Q = ((0 ≤ a → Xp 181 d 59 ls st t g Q) ∧ (¬ (0 ≤ a) → Xp 181 d 50 ls st t g Q)) := xr_if1 (cd := .ge) (off := 12) (by decide +kernel) (by decide)
theorem x_181_54 : Xp 181 d 54 [v0, (0, x), v2] st t g Q = Xp 181 d 55 [v0, (0, x), v2] ((0, x) :: st) t g Q := Xp_go (i := .iload_n 1) (len := 1) (by decide +kernel) rfl
theorem x_181_59 : Xp 181 d 59 [v0, v1, (0, x)] st t g Q = Xp 181 d 60 [v0, v1, (0, x)] ((0, x) :: st) t g Q := Xp_go (i := .iload_n 2) (len := 1) (by decide +kernel) rfl
theorem x_181_60 : Xp 181 d 60 [(0, x), v1, v2] st t g Q = Xp 181 d 61 [(0, x), v1, v2] ((0, x) :: st) t g Q := Xp_go (i := .iload_n 0) (len := 1) (by decide +kernel) rfl
theorem x_181_61 : Xp 181 d 61 ls ((0, b) :: (0, a) :: st) t g Q = ((a ≤ b → Xp 181 d 73 ls st t g Q) ∧ (¬ (a ≤ b) → Xp 181 d 64 ls st t g Q)) := xr_if2 (cd := .le) (off := 12) (by decide +kernel) (by decide)
theorem x_181_68 : Xp 181 d 68 [v0, v1, (0, x)] st t g Q = Xp 181 d 69 [v0, v1, (0, x)] ((0, x) :: st) t g Q := Xp_go (i := .iload_n 2) (len := 1) (by decide +kernel) rfl
theorem x_181_73 : Xp 181 d 73 ls [] t g Q = Q none t g := xr_retV (by decide +kernel) (by decide +kernel)
-- 182: java/util/Arrays.fill([JJ)V
theorem x_182_0 : Xp 182 d 0 ls st t g Q = Xp 182 d 1 ls ((0, 0) :: st) t g Q := xr_const (c := 0) (by decide +kernel) (by decide)
theorem x_182_1 : Xp 182 d 1 [v0, v1, v2, v3, v4] ((0, x) :: st) t g Q = (hkP1 v2 ∧ Xp 182 d 2 [v0, v1, v2, (0, x), v4] st t g Q) := Xp_chk (i := .istore_n 3) (len := 1) (by decide +kernel) rfl
theorem x_182_2 : Xp 182 d 2 [(2, x), v1, v2, v3, v4] st t g Q = Xp 182 d 3 [(2, x), v1, v2, v3, v4] ((2, x) :: st) t g Q := Xp_go (i := .aload_n 0) (len := 1) (by decide +kernel) rfl
theorem x_182_3 : Xp 182 d 3 ls ((2, p) :: st) t g Q = ((100 ≤ hkJK p ∧ hkJK p ≤ 104) ∧ Xp 182 d 4 ls ((0, jL p) :: st) t g Q) := Xp_chk (i := .arraylength) (len := 1) (by decide +kernel) rfl
theorem x_182_4 : Xp 182 d 4 [v0, v1, v2, v3, v4] ((0, x) :: st) t g Q = (hkP1 v3 ∧ Xp 182 d 6 [v0, v1, v2, v3, (0, x)] st t g Q) := Xp_chk (i := .istore 4) (len := 2) (by decide +kernel) rfl
theorem x_182_6 : Xp 182 d 6 [v0, v1, v2, (0, x), v4] st t g Q = Xp 182 d 7 [v0, v1, v2, (0, x), v4] ((0, x) :: st) t g Q := Xp_go (i := .iload_n 3) (len := 1) (by decide +kernel) rfl
theorem x_182_7 : Xp 182 d 7 [v0, v1, v2, v3, (0, x)] st t g Q = Xp 182 d 9 [v0, v1, v2, v3, (0, x)] ((0, x) :: st) t g Q := Xp_go (i := .iload 4) (len := 2) (by decide +kernel) rfl
theorem x_182_9 : Xp 182 d 9 ls ((0, b) :: (0, a) :: st) t g Q = ((b ≤ a → Xp 182 d 22 ls st t g Q) ∧ (¬ (b ≤ a) → Xp 182 d 12 ls st t g Q)) := xr_if2 (cd := .ge) (off := 13) (by decide +kernel) (by decide)
theorem x_182_12 : Xp 182 d 12 [(2, x), v1, v2, v3, v4] st t g Q = Xp 182 d 13 [(2, x), v1, v2, v3, v4] ((2, x) :: st) t g Q := Xp_go (i := .aload_n 0) (len := 1) (by decide +kernel) rfl
theorem x_182_13 : Xp 182 d 13 [v0, v1, v2, (0, x), v4] st t g Q = Xp 182 d 14 [v0, v1, v2, (0, x), v4] ((0, x) :: st) t g Q := Xp_go (i := .iload_n 3) (len := 1) (by decide +kernel) rfl
theorem x_182_14 : Xp 182 d 14 [v0, (1, x), v2, v3, v4] st t g Q = Xp 182 d 15 [v0, (1, x), v2, v3, v4] ((1, x) :: st) t g Q := Xp_go (i := .lload_n 1) (len := 1) (by decide +kernel) rfl
theorem x_182_15 : Xp 182 d 15 ls ((1, x) :: (0, a) :: (2, p) :: st) t g Q = ((hkJK p = 101 ∧ (101 = 102 → x = 0 ∨ x = 1) ∧ 0 ≤ a ∧ a < jL p) ∧ Xp 182 d 16 ls st t (hkSet g p a x) Q) := Xp_chk (i := .lastore) (len := 1) (by decide +kernel) rfl
theorem x_182_16 : Xp 182 d 16 [v0, v1, v2, (0, x), v4] st t g Q = (hkP1 v2 ∧ Xp 182 d 19 [v0, v1, v2, (0, hkW (x + 1)), v4] st t g Q) := Xp_chk (i := .iinc 3 (1)) (len := 3) (by decide +kernel) rfl
theorem x_182_19 : Xp 182 d 19 ls st t g Q = Xp 182 d 6 ls st t g Q := xr_goto (off := -13) (by decide +kernel) (by decide)
theorem x_182_22 : Xp 182 d 22 ls [] t g Q = Q none t g := xr_retV (by decide +kernel) (by decide +kernel)
-- 33: HookBoxes$Box.<init>()V
theorem x_33_0 : Xp 33 d 0 [(2, x)] st t g Q = Xp 33 d 1 [(2, x)] ((2, x) :: st) t g Q := Xp_go (i := .aload_n 0) (len := 1) (by decide +kernel) rfl
theorem x_33_1 : Xp 33 d 1 ls ((2, p) :: st) t g Q = (hkC8 st ∧ Xp 33 d 4 ls st t g Q) := xr_obj (idx := 3) (f := 183) (by decide +kernel) (by decide +kernel) (by decide +kernel) (by decide +kernel)
theorem x_33_4 : Xp 33 d 4 [(2, x)] st t g Q = Xp 33 d 5 [(2, x)] ((2, x) :: st) t g Q := Xp_go (i := .aload_n 0) (len := 1) (by decide +kernel) rfl
theorem x_33_5 : Xp 33 d 5 ls st t g Q = Xp 33 d 8 ls ((0, 140) :: st) t g Q := xr_si (c := 140) (by decide +kernel) (by decide)
theorem x_33_8 : Xp 33 d 8 ls ((0, x) :: st) t g Q = (∃ P z w, hkEV[t]? = some (0, P, z, w) ∧ hkKd P = 100 ∧ x = jL (P : Int) ∧ Xp 33 d 10 ls ((2, (P : Int)) :: st) (t + 1) g Q) := xr_newa (ty := .int) (ci := 100) (by decide +kernel) (by decide) (by decide)
theorem x_33_10 : Xp 33 d 10 ls ((2, z) :: (2, p) :: st) t g Q = (hkJK p = 1 ∧ hkEV[t]? = some (1, p.toNat, 4, z.toNat) ∧ Xp 33 d 13 ls st (t + 1) g Q) := xr_putR (idx := 9) (ci := 1) (k := 4) (by decide +kernel) (by decide +kernel) (by decide +kernel) (by decide +kernel) (by decide +kernel)
theorem x_33_13 : Xp 33 d 13 [(2, x)] st t g Q = Xp 33 d 14 [(2, x)] ((2, x) :: st) t g Q := Xp_go (i := .aload_n 0) (len := 1) (by decide +kernel) rfl
theorem x_33_14 : Xp 33 d 14 ls st t g Q = Xp 33 d 16 ls ((0, 35) :: st) t g Q := xr_bi (c := 35) (by decide +kernel) (by decide)
theorem x_33_16 : Xp 33 d 16 ls ((0, x) :: st) t g Q = (∃ P z w, hkEV[t]? = some (0, P, z, w) ∧ hkKd P = 100 ∧ x = jL (P : Int) ∧ Xp 33 d 18 ls ((2, (P : Int)) :: st) (t + 1) g Q) := xr_newa (ty := .int) (ci := 100) (by decide +kernel) (by decide) (by decide)
theorem x_33_18 : Xp 33 d 18 ls ((2, z) :: (2, p) :: st) t g Q = (hkJK p = 1 ∧ hkEV[t]? = some (1, p.toNat, 5, z.toNat) ∧ Xp 33 d 21 ls st (t + 1) g Q) := xr_putR (idx := 15) (ci := 1) (k := 5) (by decide +kernel) (by decide +kernel) (by decide +kernel) (by decide +kernel) (by decide +kernel)
theorem x_33_21 : Xp 33 d 21 [(2, x)] st t g Q = Xp 33 d 22 [(2, x)] ((2, x) :: st) t g Q := Xp_go (i := .aload_n 0) (len := 1) (by decide +kernel) rfl
theorem x_33_22 : Xp 33 d 22 ls st t g Q = Xp 33 d 24 ls ((0, 35) :: st) t g Q := xr_bi (c := 35) (by decide +kernel) (by decide)
theorem x_33_24 : Xp 33 d 24 ls ((0, x) :: st) t g Q = (∃ P z w, hkEV[t]? = some (0, P, z, w) ∧ hkKd P = 100 ∧ x = jL (P : Int) ∧ Xp 33 d 26 ls ((2, (P : Int)) :: st) (t + 1) g Q) := xr_newa (ty := .int) (ci := 100) (by decide +kernel) (by decide) (by decide)
theorem x_33_26 : Xp 33 d 26 ls ((2, z) :: (2, p) :: st) t g Q = (hkJK p = 1 ∧ hkEV[t]? = some (1, p.toNat, 6, z.toNat) ∧ Xp 33 d 29 ls st (t + 1) g Q) := xr_putR (idx := 18) (ci := 1) (k := 6) (by decide +kernel) (by decide +kernel) (by decide +kernel) (by decide +kernel) (by decide +kernel)
theorem x_33_29 : Xp 33 d 29 [(2, x)] st t g Q = Xp 33 d 30 [(2, x)] ((2, x) :: st) t g Q := Xp_go (i := .aload_n 0) (len := 1) (by decide +kernel) rfl
theorem x_33_30 : Xp 33 d 30 ls st t g Q = Xp 33 d 32 ls ((0, 35) :: st) t g Q := xr_bi (c := 35) (by decide +kernel) (by decide)
theorem x_33_32 : Xp 33 d 32 ls ((0, x) :: st) t g Q = (∃ P z w, hkEV[t]? = some (0, P, z, w) ∧ hkKd P = 100 ∧ x = jL (P : Int) ∧ Xp 33 d 34 ls ((2, (P : Int)) :: st) (t + 1) g Q) := xr_newa (ty := .int) (ci := 100) (by decide +kernel) (by decide) (by decide)
theorem x_33_34 : Xp 33 d 34 ls ((2, z) :: (2, p) :: st) t g Q = (hkJK p = 1 ∧ hkEV[t]? = some (1, p.toNat, 7, z.toNat) ∧ Xp 33 d 37 ls st (t + 1) g Q) := xr_putR (idx := 21) (ci := 1) (k := 7) (by decide +kernel) (by decide +kernel) (by decide +kernel) (by decide +kernel) (by decide +kernel)
theorem x_33_37 : Xp 33 d 37 [(2, x)] st t g Q = Xp 33 d 38 [(2, x)] ((2, x) :: st) t g Q := Xp_go (i := .aload_n 0) (len := 1) (by decide +kernel) rfl
theorem x_33_38 : Xp 33 d 38 ls st t g Q = Xp 33 d 40 ls ((0, 7) :: st) t g Q := xr_bi (c := 7) (by decide +kernel) (by decide)
theorem x_33_40 : Xp 33 d 40 ls ((0, x) :: st) t g Q = (∃ P z w, hkEV[t]? = some (0, P, z, w) ∧ hkKd P = 100 ∧ x = jL (P : Int) ∧ Xp 33 d 42 ls ((2, (P : Int)) :: st) (t + 1) g Q) := xr_newa (ty := .int) (ci := 100) (by decide +kernel) (by decide) (by decide)
theorem x_33_42 : Xp 33 d 42 ls ((2, z) :: (2, p) :: st) t g Q = (hkJK p = 1 ∧ hkEV[t]? = some (1, p.toNat, 8, z.toNat) ∧ Xp 33 d 45 ls st (t + 1) g Q) := xr_putR (idx := 24) (ci := 1) (k := 8) (by decide +kernel) (by decide +kernel) (by decide +kernel) (by decide +kernel) (by decide +kernel)
theorem x_33_45 : Xp 33 d 45 [(2, x)] st t g Q = Xp 33 d 46 [(2, x)] ((2, x) :: st) t g Q := Xp_go (i := .aload_n 0) (len := 1) (by decide +kernel) rfl
theorem x_33_46 : Xp 33 d 46 ls st t g Q = Xp 33 d 48 ls ((0, 35) :: st) t g Q := xr_bi (c := 35) (by decide +kernel) (by decide)
theorem x_33_48 : Xp 33 d 48 ls ((0, x) :: st) t g Q = (∃ P z w, hkEV[t]? = some (0, P, z, w) ∧ hkKd P = 100 ∧ x = jL (P : Int) ∧ Xp 33 d 50 ls ((2, (P : Int)) :: st) (t + 1) g Q) := xr_newa (ty := .int) (ci := 100) (by decide +kernel) (by decide) (by decide)
theorem x_33_50 : Xp 33 d 50 ls ((2, z) :: (2, p) :: st) t g Q = (hkJK p = 1 ∧ hkEV[t]? = some (1, p.toNat, 9, z.toNat) ∧ Xp 33 d 53 ls st (t + 1) g Q) := xr_putR (idx := 27) (ci := 1) (k := 9) (by decide +kernel) (by decide +kernel) (by decide +kernel) (by decide +kernel) (by decide +kernel)
theorem x_33_53 : Xp 33 d 53 [(2, x)] st t g Q = Xp 33 d 54 [(2, x)] ((2, x) :: st) t g Q := Xp_go (i := .aload_n 0) (len := 1) (by decide +kernel) rfl
theorem x_33_54 : Xp 33 d 54 ls st t g Q = Xp 33 d 57 ls ((0, 128) :: st) t g Q := xr_si (c := 128) (by decide +kernel) (by decide)
theorem x_33_57 : Xp 33 d 57 ls ((0, x) :: st) t g Q = (∃ P z w, hkEV[t]? = some (0, P, z, w) ∧ hkKd P = 100 ∧ x = jL (P : Int) ∧ Xp 33 d 59 ls ((2, (P : Int)) :: st) (t + 1) g Q) := xr_newa (ty := .int) (ci := 100) (by decide +kernel) (by decide) (by decide)
theorem x_33_59 : Xp 33 d 59 ls ((2, z) :: (2, p) :: st) t g Q = (hkJK p = 1 ∧ hkEV[t]? = some (1, p.toNat, 10, z.toNat) ∧ Xp 33 d 62 ls st (t + 1) g Q) := xr_putR (idx := 30) (ci := 1) (k := 10) (by decide +kernel) (by decide +kernel) (by decide +kernel) (by decide +kernel) (by decide +kernel)
theorem x_33_62 : Xp 33 d 62 [(2, x)] st t g Q = Xp 33 d 63 [(2, x)] ((2, x) :: st) t g Q := Xp_go (i := .aload_n 0) (len := 1) (by decide +kernel) rfl
theorem x_33_63 : Xp 33 d 63 ls st t g Q = Xp 33 d 64 ls ((0, 4) :: st) t g Q := xr_const (c := 4) (by decide +kernel) (by decide)
theorem x_33_64 : Xp 33 d 64 ls ((0, x) :: st) t g Q = (∃ P z w, hkEV[t]? = some (0, P, z, w) ∧ hkKd P = 100 ∧ x = jL (P : Int) ∧ Xp 33 d 66 ls ((2, (P : Int)) :: st) (t + 1) g Q) := xr_newa (ty := .int) (ci := 100) (by decide +kernel) (by decide) (by decide)
theorem x_33_66 : Xp 33 d 66 ls ((2, z) :: (2, p) :: st) t g Q = (hkJK p = 1 ∧ hkEV[t]? = some (1, p.toNat, 11, z.toNat) ∧ Xp 33 d 69 ls st (t + 1) g Q) := xr_putR (idx := 33) (ci := 1) (k := 11) (by decide +kernel) (by decide +kernel) (by decide +kernel) (by decide +kernel) (by decide +kernel)
theorem x_33_69 : Xp 33 d 69 [(2, x)] st t g Q = Xp 33 d 70 [(2, x)] ((2, x) :: st) t g Q := Xp_go (i := .aload_n 0) (len := 1) (by decide +kernel) rfl
theorem x_33_70 : Xp 33 d 70 ls st t g Q = Xp 33 d 71 ls ((0, 2) :: st) t g Q := xr_const (c := 2) (by decide +kernel) (by decide)
theorem x_33_71 : Xp 33 d 71 ls st t g Q = Xp 33 d 72 ls ((0, 4) :: st) t g Q := xr_const (c := 4) (by decide +kernel) (by decide)
theorem x_33_72 : Xp 33 (d + 1) 72 ls ((0, a2) :: (0, a1) :: (2, a0) :: st) t g Q = (hkJK a0 = 1 ∧ hkC8 st ∧ Xp 34 d 0 [(2, a0), (0, a1), (0, a2), hkU] [] t g (fun r t g => Xp 33 (d + 1) 75 ls (hkPush r st) t g Q)) := xr_invV (idx := 36) (y' := 34) (ci := 1) (tg := [2, 0, 0]) (by decide +kernel) (by decide +kernel) (by decide +kernel) (by decide +kernel) rfl rfl rfl
theorem x_33_75 : Xp 33 d 75 ls [] t g Q = Q none t g := xr_retV (by decide +kernel) (by decide +kernel)
-- 34: HookBoxes$Box.become(II)V
theorem x_34_0 : Xp 34 d 0 [(2, x), v1, v2, v3] st t g Q = Xp 34 d 1 [(2, x), v1, v2, v3] ((2, x) :: st) t g Q := Xp_go (i := .aload_n 0) (len := 1) (by decide +kernel) rfl
theorem x_34_1 : Xp 34 d 1 [v0, (0, x), v2, v3] st t g Q = Xp 34 d 2 [v0, (0, x), v2, v3] ((0, x) :: st) t g Q := Xp_go (i := .iload_n 1) (len := 1) (by decide +kernel) rfl
theorem x_34_2 : Xp 34 d 2 ls ((0, x) :: (2, p) :: st) t g Q = (hkJK p = 1 ∧ Xp 34 d 5 ls st t (hkSet g p 0 x) Q) := xr_putI (idx := 40) (ci := 1) (k := 0) (by decide +kernel) (by decide +kernel) (by decide +kernel)
theorem x_34_5 : Xp 34 d 5 [(2, x), v1, v2, v3] st t g Q = Xp 34 d 6 [(2, x), v1, v2, v3] ((2, x) :: st) t g Q := Xp_go (i := .aload_n 0) (len := 1) (by decide +kernel) rfl
theorem x_34_6 : Xp 34 d 6 [v0, v1, (0, x), v3] st t g Q = Xp 34 d 7 [v0, v1, (0, x), v3] ((0, x) :: st) t g Q := Xp_go (i := .iload_n 2) (len := 1) (by decide +kernel) rfl
theorem x_34_7 : Xp 34 d 7 ls ((0, x) :: (2, p) :: st) t g Q = (hkJK p = 1 ∧ Xp 34 d 10 ls st t (hkSet g p 1 x) Q) := xr_putI (idx := 44) (ci := 1) (k := 1) (by decide +kernel) (by decide +kernel) (by decide +kernel)
theorem x_34_10 : Xp 34 d 10 [(2, x), v1, v2, v3] st t g Q = Xp 34 d 11 [(2, x), v1, v2, v3] ((2, x) :: st) t g Q := Xp_go (i := .aload_n 0) (len := 1) (by decide +kernel) rfl
theorem x_34_11 : Xp 34 d 11 [v0, v1, (0, x), v3] st t g Q = Xp 34 d 12 [v0, v1, (0, x), v3] ((0, x) :: st) t g Q := Xp_go (i := .iload_n 2) (len := 1) (by decide +kernel) rfl
theorem x_34_12 : Xp 34 d 12 [v0, (0, x), v2, v3] st t g Q = Xp 34 d 13 [v0, (0, x), v2, v3] ((0, x) :: st) t g Q := Xp_go (i := .iload_n 1) (len := 1) (by decide +kernel) rfl
theorem x_34_13 : Xp 34 d 13 ls ((0, b) :: (0, a) :: st) t g Q = Xp 34 d 14 ls ((0, hkW (a - b)) :: st) t g Q := Xp_go (i := .isub) (len := 1) (by decide +kernel) rfl
theorem x_34_14 : Xp 34 d 14 ls ((0, x) :: (2, p) :: st) t g Q = (hkJK p = 1 ∧ Xp 34 d 17 ls st t (hkSet g p 2 x) Q) := xr_putI (idx := 47) (ci := 1) (k := 2) (by decide +kernel) (by decide +kernel) (by decide +kernel)
theorem x_34_17 : Xp 34 d 17 [(2, x), v1, v2, v3] st t g Q = Xp 34 d 18 [(2, x), v1, v2, v3] ((2, x) :: st) t g Q := Xp_go (i := .aload_n 0) (len := 1) (by decide +kernel) rfl
theorem x_34_18 : Xp 34 d 18 ls st t g Q = Xp 34 d 19 ls ((0, 0) :: st) t g Q := xr_const (c := 0) (by decide +kernel) (by decide)
theorem x_34_19 : Xp 34 d 19 ls ((0, x) :: (2, p) :: st) t g Q = (hkJK p = 1 ∧ Xp 34 d 22 ls st t (hkSet g p 3 x) Q) := xr_putI (idx := 50) (ci := 1) (k := 3) (by decide +kernel) (by decide +kernel) (by decide +kernel)
theorem x_34_22 : Xp 34 d 22 [(2, x), v1, v2, v3] st t g Q = Xp 34 d 23 [(2, x), v1, v2, v3] ((2, x) :: st) t g Q := Xp_go (i := .aload_n 0) (len := 1) (by decide +kernel) rfl
theorem x_34_23 : Xp 34 d 23 ls ((2, p) :: st) t g Q = (hkJK p = 1 ∧ jA p 10 ≤ t ∧ Xp 34 d 26 ls ((2, jR p 10) :: st) t g Q) := xr_getR (idx := 30) (ci := 1) (k := 10) (by decide +kernel) (by decide +kernel) (by decide +kernel)
theorem x_34_26 : Xp 34 d 26 ls st t g Q = Xp 34 d 27 ls ((0, -1) :: st) t g Q := xr_const (c := -1) (by decide +kernel) (by decide)
theorem x_34_27 : Xp 34 (d + 1) 27 ls ((0, a1) :: (2, a0) :: st) t g Q = (hkC8 st ∧ Xp 179 d 0 [(2, a0), (0, a1), hkU, hkU] [] t g (fun r t g => Xp 34 (d + 1) 30 ls (hkPush r st) t g Q)) := xr_invS (idx := 53) (y' := 179) (tg := [2, 0]) (by decide +kernel) (by decide +kernel) (by decide +kernel) rfl rfl
theorem x_34_30 : Xp 34 d 30 [(2, x), v1, v2, v3] st t g Q = Xp 34 d 31 [(2, x), v1, v2, v3] ((2, x) :: st) t g Q := Xp_go (i := .aload_n 0) (len := 1) (by decide +kernel) rfl
theorem x_34_31 : Xp 34 d 31 ls ((2, p) :: st) t g Q = (hkJK p = 1 ∧ jA p 8 ≤ t ∧ Xp 34 d 34 ls ((2, jR p 8) :: st) t g Q) := xr_getR (idx := 24) (ci := 1) (k := 8) (by decide +kernel) (by decide +kernel) (by decide +kernel)
theorem x_34_34 : Xp 34 d 34 ls st t g Q = Xp 34 d 35 ls ((0, 0) :: st) t g Q := xr_const (c := 0) (by decide +kernel) (by decide)
theorem x_34_35 : Xp 34 (d + 1) 35 ls ((0, a1) :: (2, a0) :: st) t g Q = (hkC8 st ∧ Xp 179 d 0 [(2, a0), (0, a1), hkU, hkU] [] t g (fun r t g => Xp 34 (d + 1) 38 ls (hkPush r st) t g Q)) := xr_invS (idx := 53) (y' := 179) (tg := [2, 0]) (by decide +kernel) (by decide +kernel) (by decide +kernel) rfl rfl
theorem x_34_38 : Xp 34 d 38 [(2, x), v1, v2, v3] st t g Q = Xp 34 d 39 [(2, x), v1, v2, v3] ((2, x) :: st) t g Q := Xp_go (i := .aload_n 0) (len := 1) (by decide +kernel) rfl
theorem x_34_39 : Xp 34 d 39 ls ((2, p) :: st) t g Q = (hkJK p = 1 ∧ jA p 11 ≤ t ∧ Xp 34 d 42 ls ((2, jR p 11) :: st) t g Q) := xr_getR (idx := 33) (ci := 1) (k := 11) (by decide +kernel) (by decide +kernel) (by decide +kernel)
theorem x_34_42 : Xp 34 d 42 ls st t g Q = Xp 34 d 43 ls ((0, 0) :: st) t g Q := xr_const (c := 0) (by decide +kernel) (by decide)
theorem x_34_43 : Xp 34 (d + 1) 43 ls ((0, a1) :: (2, a0) :: st) t g Q = (hkC8 st ∧ Xp 179 d 0 [(2, a0), (0, a1), hkU, hkU] [] t g (fun r t g => Xp 34 (d + 1) 46 ls (hkPush r st) t g Q)) := xr_invS (idx := 53) (y' := 179) (tg := [2, 0]) (by decide +kernel) (by decide +kernel) (by decide +kernel) rfl rfl
theorem x_34_46 : Xp 34 d 46 ls st t g Q = Xp 34 d 47 ls ((0, 0) :: st) t g Q := xr_const (c := 0) (by decide +kernel) (by decide)
theorem x_34_47 : Xp 34 d 47 [v0, v1, v2, v3] ((0, x) :: st) t g Q = (hkP1 v2 ∧ Xp 34 d 48 [v0, v1, v2, (0, x)] st t g Q) := Xp_chk (i := .istore_n 3) (len := 1) (by decide +kernel) rfl
theorem x_34_48 : Xp 34 d 48 [v0, v1, v2, (0, x)] st t g Q = Xp 34 d 49 [v0, v1, v2, (0, x)] ((0, x) :: st) t g Q := Xp_go (i := .iload_n 3) (len := 1) (by decide +kernel) rfl
theorem x_34_49 : Xp 34 d 49 [(2, x), v1, v2, v3] st t g Q = Xp 34 d 50 [(2, x), v1, v2, v3] ((2, x) :: st) t g Q := Xp_go (i := .aload_n 0) (len := 1) (by decide +kernel) rfl
theorem x_34_50 : Xp 34 d 50 ls ((2, p) :: st) t g Q = (hkJK p = 1 ∧ Xp 34 d 53 ls ((0, g p 0) :: st) t g Q) := xr_getI (idx := 40) (ci := 1) (k := 0) (by decide +kernel) (by decide +kernel) (by decide +kernel)
theorem x_34_53 : Xp 34 d 53 [(2, x), v1, v2, v3] st t g Q = Xp 34 d 54 [(2, x), v1, v2, v3] ((2, x) :: st) t g Q := Xp_go (i := .aload_n 0) (len := 1) (by decide +kernel) rfl
theorem x_34_54 : Xp 34 d 54 ls ((2, p) :: st) t g Q = (hkJK p = 1 ∧ Xp 34 d 57 ls ((0, g p 2) :: st) t g Q) := xr_getI (idx := 47) (ci := 1) (k := 2) (by decide +kernel) (by decide +kernel) (by decide +kernel)
theorem x_34_57 : Xp 34 d 57 ls ((0, b) :: (0, a) :: st) t g Q = Xp 34 d 58 ls ((0, hkW (a * b)) :: st) t g Q := Xp_go (i := .imul) (len := 1) (by decide +kernel) rfl
theorem x_34_58 : Xp 34 d 58 ls ((0, b) :: (0, a) :: st) t g Q = ((b < a → Xp 34 d 77 ls st t g Q) ∧ (¬ (b < a) → Xp 34 d 61 ls st t g Q)) := xr_if2 (cd := .gt) (off := 19) (by decide +kernel) (by decide)
theorem x_34_61 : Xp 34 d 61 [(2, x), v1, v2, v3] st t g Q = Xp 34 d 62 [(2, x), v1, v2, v3] ((2, x) :: st) t g Q := Xp_go (i := .aload_n 0) (len := 1) (by decide +kernel) rfl
theorem x_34_62 : Xp 34 d 62 ls st t g Q = Xp 34 d 63 ls ((0, 0) :: st) t g Q := xr_const (c := 0) (by decide +kernel) (by decide)
theorem x_34_63 : Xp 34 d 63 [(2, x), v1, v2, v3] st t g Q = Xp 34 d 64 [(2, x), v1, v2, v3] ((2, x) :: st) t g Q := Xp_go (i := .aload_n 0) (len := 1) (by decide +kernel) rfl
theorem x_34_64 : Xp 34 d 64 ls ((2, p) :: st) t g Q = (hkJK p = 1 ∧ Xp 34 d 67 ls ((0, g p 2) :: st) t g Q) := xr_getI (idx := 47) (ci := 1) (k := 2) (by decide +kernel) (by decide +kernel) (by decide +kernel)
theorem x_34_67 : Xp 34 d 67 [v0, v1, v2, (0, x)] st t g Q = Xp 34 d 68 [v0, v1, v2, (0, x)] ((0, x) :: st) t g Q := Xp_go (i := .iload_n 3) (len := 1) (by decide +kernel) rfl
theorem x_34_68 : Xp 34 (d + 1) 68 ls ((0, a3) :: (0, a2) :: (0, a1) :: (2, a0) :: st) t g Q = (hkJK a0 = 1 ∧ hkC8 st ∧ Xp 35 d 0 [(2, a0), (0, a1), (0, a2), (0, a3), hkU] [] t g (fun r t g => Xp 34 (d + 1) 71 ls (hkPush r st) t g Q)) := xr_invV (idx := 59) (y' := 35) (ci := 1) (tg := [2, 0, 0, 0]) (by decide +kernel) (by decide +kernel) (by decide +kernel) (by decide +kernel) rfl rfl rfl
theorem x_34_71 : Xp 34 d 71 [v0, v1, v2, (0, x)] st t g Q = (hkP1 v2 ∧ Xp 34 d 74 [v0, v1, v2, (0, hkW (x + 1))] st t g Q) := Xp_chk (i := .iinc 3 (1)) (len := 3) (by decide +kernel) rfl
theorem x_34_74 : Xp 34 d 74 ls st t g Q = Xp 34 d 48 ls st t g Q := xr_goto (off := -26) (by decide +kernel) (by decide)
theorem x_34_77 : Xp 34 d 77 ls [] t g Q = Q none t g := xr_retV (by decide +kernel) (by decide +kernel)
-- 35: HookBoxes$Box.addShapes(III)V
theorem x_35_0 : Xp 35 d 0 [v0, (0, x), v2, v3, v4] st t g Q = Xp 35 d 1 [v0, (0, x), v2, v3, v4] ((0, x) :: st) t g Q := Xp_go (i := .iload_n 1) (len := 1) (by decide +kernel) rfl
theorem x_35_1 : Xp 35 d 1 [(2, x), v1, v2, v3, v4] st t g Q = Xp 35 d 2 [(2, x), v1, v2, v3, v4] ((2, x) :: st) t g Q := Xp_go (i := .aload_n 0) (len := 1) (by decide +kernel) rfl
theorem x_35_2 : Xp 35 d 2 ls ((2, p) :: st) t g Q = (hkJK p = 1 ∧ Xp 35 d 5 ls ((0, g p 0) :: st) t g Q) := xr_getI (idx := 40) (ci := 1) (k := 0) (by decide +kernel) (by decide +kernel) (by decide +kernel)
theorem x_35_5 : Xp 35 d 5 ls ((0, b) :: (0, a) :: st) t g Q = ((a < b → Xp 35 d 17 ls st t g Q) ∧ (¬ (a < b) → Xp 35 d 8 ls st t g Q)) := xr_if2 (cd := .lt) (off := 12) (by decide +kernel) (by decide)
theorem x_35_8 : Xp 35 d 8 [v0, v1, v2, (0, x), v4] st t g Q = Xp 35 d 9 [v0, v1, v2, (0, x), v4] ((0, x) :: st) t g Q := Xp_go (i := .iload_n 3) (len := 1) (by decide +kernel) rfl
theorem x_35_9 : Xp 35 d 9 ls ((0, a) :: st) t g Q = ((¬ (a = 0) → Xp 35 d 16 ls st t g Q) ∧ (¬ (¬ (a = 0)) → Xp 35 d 12 ls st t g Q)) := xr_if1 (cd := .ne) (off := 7) (by decide +kernel) (by decide)
theorem x_35_12 : Xp 35 d 12 [(2, x), v1, v2, v3, v4] st t g Q = Xp 35 d 13 [(2, x), v1, v2, v3, v4] ((2, x) :: st) t g Q := Xp_go (i := .aload_n 0) (len := 1) (by decide +kernel) rfl
theorem x_35_13 : Xp 35 (d + 1) 13 ls ((2, a0) :: st) t g Q = (hkJK a0 = 1 ∧ hkC8 st ∧ Xp 36 d 0 [(2, a0), hkU, hkU, hkU] [] t g (fun r t g => Xp 35 (d + 1) 16 ls (hkPush r st) t g Q)) := xr_invV (idx := 63) (y' := 36) (ci := 1) (tg := [2]) (by decide +kernel) (by decide +kernel) (by decide +kernel) (by decide +kernel) rfl rfl rfl
theorem x_35_16 : Xp 35 d 16 ls [] t g Q = Q none t g := xr_retV (by decide +kernel) (by decide +kernel)
theorem x_35_17 : Xp 35 d 17 [v0, v1, (0, x), v3, v4] st t g Q = Xp 35 d 18 [v0, v1, (0, x), v3, v4] ((0, x) :: st) t g Q := Xp_go (i := .iload_n 2) (len := 1) (by decide +kernel) rfl
theorem x_35_18 : Xp 35 d 18 [v0, v1, v2, (0, x), v4] st t g Q = Xp 35 d 19 [v0, v1, v2, (0, x), v4] ((0, x) :: st) t g Q := Xp_go (i := .iload_n 3) (len := 1) (by decide +kernel) rfl
theorem x_35_19 : Xp 35 (d + 1) 19 ls ((0, a1) :: (0, a0) :: st) t g Q = (hkC8 st ∧ Xp 174 d 0 [(0, a0), (0, a1)] [] t g (fun r t g => Xp 35 (d + 1) 22 ls (hkPush r st) t g Q)) := xr_invS (idx := 66) (y' := 174) (tg := [0, 0]) (by decide +kernel) (by decide +kernel) (by decide +kernel) rfl rfl
theorem x_35_22 : Xp 35 d 22 [v0, v1, v2, v3, v4] ((0, x) :: st) t g Q = (hkP1 v3 ∧ Xp 35 d 24 [v0, v1, v2, v3, (0, x)] st t g Q) := Xp_chk (i := .istore 4) (len := 2) (by decide +kernel) rfl
theorem x_35_24 : Xp 35 d 24 [v0, v1, v2, v3, (0, x)] st t g Q = Xp 35 d 26 [v0, v1, v2, v3, (0, x)] ((0, x) :: st) t g Q := Xp_go (i := .iload 4) (len := 2) (by decide +kernel) rfl
theorem x_35_26 : Xp 35 d 26 ls ((0, a) :: st) t g Q = ((a < 0 → Xp 35 d 56 ls st t g Q) ∧ (¬ (a < 0) → Xp 35 d 29 ls st t g Q)) := xr_if1 (cd := .lt) (off := 30) (by decide +kernel) (by decide)
theorem x_35_29 : Xp 35 d 29 [(2, x), v1, v2, v3, v4] st t g Q = Xp 35 d 30 [(2, x), v1, v2, v3, v4] ((2, x) :: st) t g Q := Xp_go (i := .aload_n 0) (len := 1) (by decide +kernel) rfl
theorem x_35_30 : Xp 35 d 30 ls ((2, p) :: st) t g Q = (hkJK p = 1 ∧ jA p 11 ≤ t ∧ Xp 35 d 33 ls ((2, jR p 11) :: st) t g Q) := xr_getR (idx := 33) (ci := 1) (k := 11) (by decide +kernel) (by decide +kernel) (by decide +kernel)
theorem x_35_33 : Xp 35 d 33 [v0, (0, x), v2, v3, v4] st t g Q = Xp 35 d 34 [v0, (0, x), v2, v3, v4] ((0, x) :: st) t g Q := Xp_go (i := .iload_n 1) (len := 1) (by decide +kernel) rfl
theorem x_35_34 : Xp 35 d 34 [v0, v1, v2, v3, (0, x)] st t g Q = Xp 35 d 36 [v0, v1, v2, v3, (0, x)] ((0, x) :: st) t g Q := Xp_go (i := .iload 4) (len := 2) (by decide +kernel) rfl
theorem x_35_36 : Xp 35 d 36 ls ((0, x) :: (0, a) :: (2, p) :: st) t g Q = ((hkJK p = 100 ∧ (100 = 102 → x = 0 ∨ x = 1) ∧ 0 ≤ a ∧ a < jL p) ∧ Xp 35 d 37 ls st t (hkSet g p a x) Q) := Xp_chk (i := .iastore) (len := 1) (by decide +kernel) rfl
theorem x_35_37 : Xp 35 d 37 [(2, x), v1, v2, v3, v4] st t g Q = Xp 35 d 38 [(2, x), v1, v2, v3, v4] ((2, x) :: st) t g Q := Xp_go (i := .aload_n 0) (len := 1) (by decide +kernel) rfl
theorem x_35_38 : Xp 35 d 38 [v0, (0, x), v2, v3, v4] st t g Q = Xp 35 d 39 [v0, (0, x), v2, v3, v4] ((0, x) :: st) t g Q := Xp_go (i := .iload_n 1) (len := 1) (by decide +kernel) rfl
theorem x_35_39 : Xp 35 d 39 ls st t g Q = Xp 35 d 40 ls ((0, 1) :: st) t g Q := xr_const (c := 1) (by decide +kernel) (by decide)
theorem x_35_40 : Xp 35 d 40 ls ((0, b) :: (0, a) :: st) t g Q = Xp 35 d 41 ls ((0, hkW (a + b)) :: st) t g Q := Xp_go (i := .iadd) (len := 1) (by decide +kernel) rfl
theorem x_35_41 : Xp 35 d 41 [v0, v1, v2, v3, (0, x)] st t g Q = Xp 35 d 43 [v0, v1, v2, v3, (0, x)] ((0, x) :: st) t g Q := Xp_go (i := .iload 4) (len := 2) (by decide +kernel) rfl
theorem x_35_43 : Xp 35 d 43 [v0, v1, v2, (0, x), v4] st t g Q = Xp 35 d 44 [v0, v1, v2, (0, x), v4] ((0, x) :: st) t g Q := Xp_go (i := .iload_n 3) (len := 1) (by decide +kernel) rfl
theorem x_35_44 : Xp 35 d 44 [v0, v1, v2, v3, (0, x)] st t g Q = Xp 35 d 46 [v0, v1, v2, v3, (0, x)] ((0, x) :: st) t g Q := Xp_go (i := .iload 4) (len := 2) (by decide +kernel) rfl
theorem x_35_46 : Xp 35 d 46 ls ((0, b) :: (0, a) :: st) t g Q = Xp 35 d 47 ls ((0, hkW (a - b)) :: st) t g Q := Xp_go (i := .isub) (len := 1) (by decide +kernel) rfl
theorem x_35_47 : Xp 35 (d + 1) 47 ls ((0, a3) :: (0, a2) :: (0, a1) :: (2, a0) :: st) t g Q = (hkJK a0 = 1 ∧ hkC8 st ∧ Xp 35 d 0 [(2, a0), (0, a1), (0, a2), (0, a3), hkU] [] t g (fun r t g => Xp 35 (d + 1) 50 ls (hkPush r st) t g Q)) := xr_invV (idx := 59) (y' := 35) (ci := 1) (tg := [2, 0, 0, 0]) (by decide +kernel) (by decide +kernel) (by decide +kernel) (by decide +kernel) rfl rfl rfl
theorem x_35_50 : Xp 35 d 50 [v0, v1, v2, v3, (0, x)] st t g Q = (hkP1 v3 ∧ Xp 35 d 53 [v0, v1, v2, v3, (0, hkW (x + -1))] st t g Q) := Xp_chk (i := .iinc 4 (-1)) (len := 3) (by decide +kernel) rfl
theorem x_35_53 : Xp 35 d 53 ls st t g Q = Xp 35 d 24 ls st t g Q := xr_goto (off := -29) (by decide +kernel) (by decide)
theorem x_35_56 : Xp 35 d 56 ls [] t g Q = Q none t g := xr_retV (by decide +kernel) (by decide +kernel)
-- 36: HookBoxes$Box.addTrial()V
theorem x_36_0 : Xp 36 d 0 ls st t g Q = Xp 36 d 1 ls ((0, 0) :: st) t g Q := xr_const (c := 0) (by decide +kernel) (by decide)
theorem x_36_1 : Xp 36 d 1 [v0, v1, v2, v3] ((0, x) :: st) t g Q = (hkP1 v0 ∧ Xp 36 d 2 [v0, (0, x), v2, v3] st t g Q) := Xp_chk (i := .istore_n 1) (len := 1) (by decide +kernel) rfl
theorem x_36_2 : Xp 36 d 2 ls st t g Q = Xp 36 d 3 ls ((0, 0) :: st) t g Q := xr_const (c := 0) (by decide +kernel) (by decide)
theorem x_36_3 : Xp 36 d 3 [v0, v1, v2, v3] ((0, x) :: st) t g Q = (hkP1 v1 ∧ Xp 36 d 4 [v0, v1, (0, x), v3] st t g Q) := Xp_chk (i := .istore_n 2) (len := 1) (by decide +kernel) rfl
theorem x_36_4 : Xp 36 d 4 ls st t g Q = Xp 36 d 5 ls ((0, 0) :: st) t g Q := xr_const (c := 0) (by decide +kernel) (by decide)
theorem x_36_5 : Xp 36 d 5 [v0, v1, v2, v3] ((0, x) :: st) t g Q = (hkP1 v2 ∧ Xp 36 d 6 [v0, v1, v2, (0, x)] st t g Q) := Xp_chk (i := .istore_n 3) (len := 1) (by decide +kernel) rfl
theorem x_36_6 : Xp 36 d 6 [v0, v1, v2, (0, x)] st t g Q = Xp 36 d 7 [v0, v1, v2, (0, x)] ((0, x) :: st) t g Q := Xp_go (i := .iload_n 3) (len := 1) (by decide +kernel) rfl
theorem x_36_7 : Xp 36 d 7 [(2, x), v1, v2, v3] st t g Q = Xp 36 d 8 [(2, x), v1, v2, v3] ((2, x) :: st) t g Q := Xp_go (i := .aload_n 0) (len := 1) (by decide +kernel) rfl
theorem x_36_8 : Xp 36 d 8 ls ((2, p) :: st) t g Q = (hkJK p = 1 ∧ Xp 36 d 11 ls ((0, g p 0) :: st) t g Q) := xr_getI (idx := 40) (ci := 1) (k := 0) (by decide +kernel) (by decide +kernel) (by decide +kernel)
theorem x_36_11 : Xp 36 d 11 ls ((0, b) :: (0, a) :: st) t g Q = ((b ≤ a → Xp 36 d 45 ls st t g Q) ∧ (¬ (b ≤ a) → Xp 36 d 14 ls st t g Q)) := xr_if2 (cd := .ge) (off := 34) (by decide +kernel) (by decide)
theorem x_36_14 : Xp 36 d 14 [v0, (0, x), v2, v3] st t g Q = Xp 36 d 15 [v0, (0, x), v2, v3] ((0, x) :: st) t g Q := Xp_go (i := .iload_n 1) (len := 1) (by decide +kernel) rfl
theorem x_36_15 : Xp 36 d 15 [(2, x), v1, v2, v3] st t g Q = Xp 36 d 16 [(2, x), v1, v2, v3] ((2, x) :: st) t g Q := Xp_go (i := .aload_n 0) (len := 1) (by decide +kernel) rfl
theorem x_36_16 : Xp 36 d 16 ls ((2, p) :: st) t g Q = (hkJK p = 1 ∧ jA p 11 ≤ t ∧ Xp 36 d 19 ls ((2, jR p 11) :: st) t g Q) := xr_getR (idx := 33) (ci := 1) (k := 11) (by decide +kernel) (by decide +kernel) (by decide +kernel)
theorem x_36_19 : Xp 36 d 19 [v0, v1, v2, (0, x)] st t g Q = Xp 36 d 20 [v0, v1, v2, (0, x)] ((0, x) :: st) t g Q := Xp_go (i := .iload_n 3) (len := 1) (by decide +kernel) rfl
theorem x_36_20 : Xp 36 d 20 ls ((0, a) :: (2, p) :: st) t g Q = ((hkJK p = 100 ∧ 0 ≤ a ∧ a < jL p) ∧ Xp 36 d 21 ls ((0, g p a) :: st) t g Q) := Xp_chk (i := .iaload) (len := 1) (by decide +kernel) rfl
theorem x_36_21 : Xp 36 d 21 ls ((0, b) :: (0, a) :: st) t g Q = Xp 36 d 22 ls ((0, hkW (a + b)) :: st) t g Q := Xp_go (i := .iadd) (len := 1) (by decide +kernel) rfl
theorem x_36_22 : Xp 36 d 22 [v0, v1, v2, v3] ((0, x) :: st) t g Q = (hkP1 v0 ∧ Xp 36 d 23 [v0, (0, x), v2, v3] st t g Q) := Xp_chk (i := .istore_n 1) (len := 1) (by decide +kernel) rfl
theorem x_36_23 : Xp 36 d 23 [v0, v1, (0, x), v3] st t g Q = Xp 36 d 24 [v0, v1, (0, x), v3] ((0, x) :: st) t g Q := Xp_go (i := .iload_n 2) (len := 1) (by decide +kernel) rfl
theorem x_36_24 : Xp 36 d 24 ls st t g Q = Xp 36 d 25 ls ((0, 1) :: st) t g Q := xr_const (c := 1) (by decide +kernel) (by decide)
theorem x_36_25 : Xp 36 d 25 [(2, x), v1, v2, v3] st t g Q = Xp 36 d 26 [(2, x), v1, v2, v3] ((2, x) :: st) t g Q := Xp_go (i := .aload_n 0) (len := 1) (by decide +kernel) rfl
theorem x_36_26 : Xp 36 d 26 [(2, x), v1, v2, v3] st t g Q = Xp 36 d 27 [(2, x), v1, v2, v3] ((2, x) :: st) t g Q := Xp_go (i := .aload_n 0) (len := 1) (by decide +kernel) rfl
theorem x_36_27 : Xp 36 d 27 ls ((2, p) :: st) t g Q = (hkJK p = 1 ∧ jA p 11 ≤ t ∧ Xp 36 d 30 ls ((2, jR p 11) :: st) t g Q) := xr_getR (idx := 33) (ci := 1) (k := 11) (by decide +kernel) (by decide +kernel) (by decide +kernel)
theorem x_36_30 : Xp 36 d 30 [v0, v1, v2, (0, x)] st t g Q = Xp 36 d 31 [v0, v1, v2, (0, x)] ((0, x) :: st) t g Q := Xp_go (i := .iload_n 3) (len := 1) (by decide +kernel) rfl
theorem x_36_31 : Xp 36 d 31 ls ((0, a) :: (2, p) :: st) t g Q = ((hkJK p = 100 ∧ 0 ≤ a ∧ a < jL p) ∧ Xp 36 d 32 ls ((0, g p a) :: st) t g Q) := Xp_chk (i := .iaload) (len := 1) (by decide +kernel) rfl
theorem x_36_32 : Xp 36 d 32 [v0, v1, v2, (0, x)] st t g Q = Xp 36 d 33 [v0, v1, v2, (0, x)] ((0, x) :: st) t g Q := Xp_go (i := .iload_n 3) (len := 1) (by decide +kernel) rfl
theorem x_36_33 : Xp 36 (d + 1) 33 ls ((0, a2) :: (0, a1) :: (2, a0) :: st) t g Q = (hkJK a0 = 1 ∧ hkC8 st ∧ Xp 37 d 0 [(2, a0), (0, a1), (0, a2)] [] t g (fun r t g => Xp 36 (d + 1) 36 ls (hkPush r st) t g Q)) := xr_invV (idx := 72) (y' := 37) (ci := 1) (tg := [2, 0, 0]) (by decide +kernel) (by decide +kernel) (by decide +kernel) (by decide +kernel) rfl rfl rfl
theorem x_36_36 : Xp 36 d 36 ls ((0, b) :: (0, a) :: st) t g Q = Xp 36 d 37 ls ((0, hkShl a b) :: st) t g Q := Xp_go (i := .ishl) (len := 1) (by decide +kernel) rfl
theorem x_36_37 : Xp 36 d 37 ls ((0, b) :: (0, a) :: st) t g Q = Xp 36 d 38 ls ((0, hkOr a b) :: st) t g Q := Xp_go (i := .ior) (len := 1) (by decide +kernel) rfl
theorem x_36_38 : Xp 36 d 38 [v0, v1, v2, v3] ((0, x) :: st) t g Q = (hkP1 v1 ∧ Xp 36 d 39 [v0, v1, (0, x), v3] st t g Q) := Xp_chk (i := .istore_n 2) (len := 1) (by decide +kernel) rfl
theorem x_36_39 : Xp 36 d 39 [v0, v1, v2, (0, x)] st t g Q = (hkP1 v2 ∧ Xp 36 d 42 [v0, v1, v2, (0, hkW (x + 1))] st t g Q) := Xp_chk (i := .iinc 3 (1)) (len := 3) (by decide +kernel) rfl
theorem x_36_42 : Xp 36 d 42 ls st t g Q = Xp 36 d 6 ls st t g Q := xr_goto (off := -36) (by decide +kernel) (by decide)
theorem x_36_45 : Xp 36 d 45 [v0, (0, x), v2, v3] st t g Q = Xp 36 d 46 [v0, (0, x), v2, v3] ((0, x) :: st) t g Q := Xp_go (i := .iload_n 1) (len := 1) (by decide +kernel) rfl
theorem x_36_46 : Xp 36 d 46 [(2, x), v1, v2, v3] st t g Q = Xp 36 d 47 [(2, x), v1, v2, v3] ((2, x) :: st) t g Q := Xp_go (i := .aload_n 0) (len := 1) (by decide +kernel) rfl
theorem x_36_47 : Xp 36 d 47 ls ((2, p) :: st) t g Q = (hkJK p = 1 ∧ Xp 36 d 50 ls ((0, g p 1) :: st) t g Q) := xr_getI (idx := 44) (ci := 1) (k := 1) (by decide +kernel) (by decide +kernel) (by decide +kernel)
theorem x_36_50 : Xp 36 d 50 ls ((0, b) :: (0, a) :: st) t g Q = (b ≠ 0 ∧ Xp 36 d 51 ls ((0, a.tmod b) :: st) t g Q) := Xp_chk (i := .irem) (len := 1) (by decide +kernel) rfl
theorem x_36_51 : Xp 36 d 51 [v0, v1, v2, v3] ((0, x) :: st) t g Q = (hkP1 v2 ∧ Xp 36 d 52 [v0, v1, v2, (0, x)] st t g Q) := Xp_chk (i := .istore_n 3) (len := 1) (by decide +kernel) rfl
theorem x_36_52 : Xp 36 d 52 [(2, x), v1, v2, v3] st t g Q = Xp 36 d 53 [(2, x), v1, v2, v3] ((2, x) :: st) t g Q := Xp_go (i := .aload_n 0) (len := 1) (by decide +kernel) rfl
theorem x_36_53 : Xp 36 d 53 ls ((2, p) :: st) t g Q = (hkJK p = 1 ∧ Xp 36 d 56 ls ((0, g p 3) :: st) t g Q) := xr_getI (idx := 50) (ci := 1) (k := 3) (by decide +kernel) (by decide +kernel) (by decide +kernel)
theorem x_36_56 : Xp 36 d 56 ls st t g Q = Xp 36 d 58 ls ((0, 35) :: st) t g Q := xr_bi (c := 35) (by decide +kernel) (by decide)
theorem x_36_58 : Xp 36 d 58 ls ((0, b) :: (0, a) :: st) t g Q = ((b ≤ a → Xp 36 d 71 ls st t g Q) ∧ (¬ (b ≤ a) → Xp 36 d 61 ls st t g Q)) := xr_if2 (cd := .ge) (off := 13) (by decide +kernel) (by decide)
theorem x_36_61 : Xp 36 d 61 [(2, x), v1, v2, v3] st t g Q = Xp 36 d 62 [(2, x), v1, v2, v3] ((2, x) :: st) t g Q := Xp_go (i := .aload_n 0) (len := 1) (by decide +kernel) rfl
theorem x_36_62 : Xp 36 d 62 ls ((2, p) :: st) t g Q = (hkJK p = 1 ∧ jA p 8 ≤ t ∧ Xp 36 d 65 ls ((2, jR p 8) :: st) t g Q) := xr_getR (idx := 24) (ci := 1) (k := 8) (by decide +kernel) (by decide +kernel) (by decide +kernel)
theorem x_36_65 : Xp 36 d 65 [v0, v1, v2, (0, x)] st t g Q = Xp 36 d 66 [v0, v1, v2, (0, x)] ((0, x) :: st) t g Q := Xp_go (i := .iload_n 3) (len := 1) (by decide +kernel) rfl
theorem x_36_66 : Xp 36 d 66 ls ((0, a) :: (2, p) :: st) t g Q = ((hkJK p = 100 ∧ 0 ≤ a ∧ a < jL p) ∧ Xp 36 d 67 ls ((0, g p a) :: st) t g Q) := Xp_chk (i := .iaload) (len := 1) (by decide +kernel) rfl
theorem x_36_67 : Xp 36 d 67 ls st t g Q = Xp 36 d 68 ls ((0, 5) :: st) t g Q := xr_const (c := 5) (by decide +kernel) (by decide)
theorem x_36_68 : Xp 36 d 68 ls ((0, b) :: (0, a) :: st) t g Q = ((a < b → Xp 36 d 72 ls st t g Q) ∧ (¬ (a < b) → Xp 36 d 71 ls st t g Q)) := xr_if2 (cd := .lt) (off := 4) (by decide +kernel) (by decide)
theorem x_36_71 : Xp 36 d 71 ls [] t g Q = Q none t g := xr_retV (by decide +kernel) (by decide +kernel)
theorem x_36_72 : Xp 36 d 72 [(2, x), v1, v2, v3] st t g Q = Xp 36 d 73 [(2, x), v1, v2, v3] ((2, x) :: st) t g Q := Xp_go (i := .aload_n 0) (len := 1) (by decide +kernel) rfl
theorem x_36_73 : Xp 36 d 73 ls ((2, p) :: st) t g Q = (hkJK p = 1 ∧ jA p 11 ≤ t ∧ Xp 36 d 76 ls ((2, jR p 11) :: st) t g Q) := xr_getR (idx := 33) (ci := 1) (k := 11) (by decide +kernel) (by decide +kernel) (by decide +kernel)
theorem x_36_76 : Xp 36 d 76 ls st t g Q = Xp 36 d 77 ls ((0, 0) :: st) t g Q := xr_const (c := 0) (by decide +kernel) (by decide)
theorem x_36_77 : Xp 36 d 77 [(2, x), v1, v2, v3] st t g Q = Xp 36 d 78 [(2, x), v1, v2, v3] ((2, x) :: st) t g Q := Xp_go (i := .aload_n 0) (len := 1) (by decide +kernel) rfl
theorem x_36_78 : Xp 36 d 78 ls ((2, p) :: st) t g Q = (hkJK p = 1 ∧ jA p 4 ≤ t ∧ Xp 36 d 81 ls ((2, jR p 4) :: st) t g Q) := xr_getR (idx := 9) (ci := 1) (k := 4) (by decide +kernel) (by decide +kernel) (by decide +kernel)
theorem x_36_81 : Xp 36 d 81 [(2, x), v1, v2, v3] st t g Q = Xp 36 d 82 [(2, x), v1, v2, v3] ((2, x) :: st) t g Q := Xp_go (i := .aload_n 0) (len := 1) (by decide +kernel) rfl
theorem x_36_82 : Xp 36 d 82 ls ((2, p) :: st) t g Q = (hkJK p = 1 ∧ Xp 36 d 85 ls ((0, g p 3) :: st) t g Q) := xr_getI (idx := 50) (ci := 1) (k := 3) (by decide +kernel) (by decide +kernel) (by decide +kernel)
theorem x_36_85 : Xp 36 d 85 ls st t g Q = Xp 36 d 86 ls ((0, 4) :: st) t g Q := xr_const (c := 4) (by decide +kernel) (by decide)
theorem x_36_86 : Xp 36 d 86 ls ((0, b) :: (0, a) :: st) t g Q = Xp 36 d 87 ls ((0, hkW (a * b)) :: st) t g Q := Xp_go (i := .imul) (len := 1) (by decide +kernel) rfl
theorem x_36_87 : Xp 36 d 87 ls st t g Q = Xp 36 d 88 ls ((0, 4) :: st) t g Q := xr_const (c := 4) (by decide +kernel) (by decide)
theorem x_36_88 : Xp 36 d 88 ls ((0, z) :: (0, b) :: (2, q) :: (0, a) :: (2, p) :: st) t g Q = ((hkJK p = 100 ∧ hkJK q = 100 ∧ 0 ≤ a ∧ 0 ≤ b ∧ 0 ≤ z ∧ a + z ≤ jL p ∧ b + z ≤ jL q) ∧ hkC8 st ∧ Xp 36 d 91 ls st t (hkCpy g p a q b z) Q) := xr_copy (idx := 75) (f := 999) (by decide +kernel) (by decide +kernel) (by decide +kernel)
theorem x_36_91 : Xp 36 d 91 [(2, x), v1, v2, v3] st t g Q = Xp 36 d 92 [(2, x), v1, v2, v3] ((2, x) :: st) t g Q := Xp_go (i := .aload_n 0) (len := 1) (by decide +kernel) rfl
theorem x_36_92 : Xp 36 d 92 ls ((2, p) :: st) t g Q = (hkJK p = 1 ∧ jA p 5 ≤ t ∧ Xp 36 d 95 ls ((2, jR p 5) :: st) t g Q) := xr_getR (idx := 15) (ci := 1) (k := 5) (by decide +kernel) (by decide +kernel) (by decide +kernel)
theorem x_36_95 : Xp 36 d 95 [(2, x), v1, v2, v3] st t g Q = Xp 36 d 96 [(2, x), v1, v2, v3] ((2, x) :: st) t g Q := Xp_go (i := .aload_n 0) (len := 1) (by decide +kernel) rfl
theorem x_36_96 : Xp 36 d 96 ls ((2, p) :: st) t g Q = (hkJK p = 1 ∧ Xp 36 d 99 ls ((0, g p 3) :: st) t g Q) := xr_getI (idx := 50) (ci := 1) (k := 3) (by decide +kernel) (by decide +kernel) (by decide +kernel)
theorem x_36_99 : Xp 36 d 99 [v0, (0, x), v2, v3] st t g Q = Xp 36 d 100 [v0, (0, x), v2, v3] ((0, x) :: st) t g Q := Xp_go (i := .iload_n 1) (len := 1) (by decide +kernel) rfl
theorem x_36_100 : Xp 36 d 100 ls ((0, x) :: (0, a) :: (2, p) :: st) t g Q = ((hkJK p = 100 ∧ (100 = 102 → x = 0 ∨ x = 1) ∧ 0 ≤ a ∧ a < jL p) ∧ Xp 36 d 101 ls st t (hkSet g p a x) Q) := Xp_chk (i := .iastore) (len := 1) (by decide +kernel) rfl
theorem x_36_101 : Xp 36 d 101 [(2, x), v1, v2, v3] st t g Q = Xp 36 d 102 [(2, x), v1, v2, v3] ((2, x) :: st) t g Q := Xp_go (i := .aload_n 0) (len := 1) (by decide +kernel) rfl
theorem x_36_102 : Xp 36 d 102 ls ((2, p) :: st) t g Q = (hkJK p = 1 ∧ jA p 6 ≤ t ∧ Xp 36 d 105 ls ((2, jR p 6) :: st) t g Q) := xr_getR (idx := 18) (ci := 1) (k := 6) (by decide +kernel) (by decide +kernel) (by decide +kernel)
theorem x_36_105 : Xp 36 d 105 [(2, x), v1, v2, v3] st t g Q = Xp 36 d 106 [(2, x), v1, v2, v3] ((2, x) :: st) t g Q := Xp_go (i := .aload_n 0) (len := 1) (by decide +kernel) rfl
theorem x_36_106 : Xp 36 d 106 ls ((2, p) :: st) t g Q = (hkJK p = 1 ∧ Xp 36 d 109 ls ((0, g p 3) :: st) t g Q) := xr_getI (idx := 50) (ci := 1) (k := 3) (by decide +kernel) (by decide +kernel) (by decide +kernel)
theorem x_36_109 : Xp 36 d 109 [v0, v1, (0, x), v3] st t g Q = Xp 36 d 110 [v0, v1, (0, x), v3] ((0, x) :: st) t g Q := Xp_go (i := .iload_n 2) (len := 1) (by decide +kernel) rfl
theorem x_36_110 : Xp 36 d 110 ls ((0, x) :: (0, a) :: (2, p) :: st) t g Q = ((hkJK p = 100 ∧ (100 = 102 → x = 0 ∨ x = 1) ∧ 0 ≤ a ∧ a < jL p) ∧ Xp 36 d 111 ls st t (hkSet g p a x) Q) := Xp_chk (i := .iastore) (len := 1) (by decide +kernel) rfl
theorem x_36_111 : Xp 36 d 111 [(2, x), v1, v2, v3] st t g Q = Xp 36 d 112 [(2, x), v1, v2, v3] ((2, x) :: st) t g Q := Xp_go (i := .aload_n 0) (len := 1) (by decide +kernel) rfl
theorem x_36_112 : Xp 36 d 112 ls ((2, p) :: st) t g Q = (hkJK p = 1 ∧ jA p 10 ≤ t ∧ Xp 36 d 115 ls ((2, jR p 10) :: st) t g Q) := xr_getR (idx := 30) (ci := 1) (k := 10) (by decide +kernel) (by decide +kernel) (by decide +kernel)
theorem x_36_115 : Xp 36 d 115 [v0, v1, (0, x), v3] st t g Q = Xp 36 d 116 [v0, v1, (0, x), v3] ((0, x) :: st) t g Q := Xp_go (i := .iload_n 2) (len := 1) (by decide +kernel) rfl
theorem x_36_116 : Xp 36 d 116 [(2, x), v1, v2, v3] st t g Q = Xp 36 d 117 [(2, x), v1, v2, v3] ((2, x) :: st) t g Q := Xp_go (i := .aload_n 0) (len := 1) (by decide +kernel) rfl
theorem x_36_117 : Xp 36 d 117 ls ((2, p) :: st) t g Q = (hkJK p = 1 ∧ Xp 36 d 120 ls ((0, g p 3) :: st) t g Q) := xr_getI (idx := 50) (ci := 1) (k := 3) (by decide +kernel) (by decide +kernel) (by decide +kernel)
theorem x_36_120 : Xp 36 d 120 ls ((0, x) :: (0, a) :: (2, p) :: st) t g Q = ((hkJK p = 100 ∧ (100 = 102 → x = 0 ∨ x = 1) ∧ 0 ≤ a ∧ a < jL p) ∧ Xp 36 d 121 ls st t (hkSet g p a x) Q) := Xp_chk (i := .iastore) (len := 1) (by decide +kernel) rfl
theorem x_36_121 : Xp 36 d 121 [(2, x), v1, v2, v3] st t g Q = Xp 36 d 122 [(2, x), v1, v2, v3] ((2, x) :: st) t g Q := Xp_go (i := .aload_n 0) (len := 1) (by decide +kernel) rfl
theorem x_36_122 : Xp 36 d 122 ls ((2, p) :: st) t g Q = (hkJK p = 1 ∧ jA p 9 ≤ t ∧ Xp 36 d 125 ls ((2, jR p 9) :: st) t g Q) := xr_getR (idx := 27) (ci := 1) (k := 9) (by decide +kernel) (by decide +kernel) (by decide +kernel)
theorem x_36_125 : Xp 36 d 125 [(2, x), v1, v2, v3] st t g Q = Xp 36 d 126 [(2, x), v1, v2, v3] ((2, x) :: st) t g Q := Xp_go (i := .aload_n 0) (len := 1) (by decide +kernel) rfl
theorem x_36_126 : Xp 36 d 126 ls ((2, p) :: st) t g Q = (hkJK p = 1 ∧ Xp 36 d 129 ls ((0, g p 3) :: st) t g Q) := xr_getI (idx := 50) (ci := 1) (k := 3) (by decide +kernel) (by decide +kernel) (by decide +kernel)
theorem x_36_129 : Xp 36 d 129 [(2, x), v1, v2, v3] st t g Q = Xp 36 d 130 [(2, x), v1, v2, v3] ((2, x) :: st) t g Q := Xp_go (i := .aload_n 0) (len := 1) (by decide +kernel) rfl
theorem x_36_130 : Xp 36 d 130 ls ((2, p) :: st) t g Q = (hkJK p = 1 ∧ jA p 8 ≤ t ∧ Xp 36 d 133 ls ((2, jR p 8) :: st) t g Q) := xr_getR (idx := 24) (ci := 1) (k := 8) (by decide +kernel) (by decide +kernel) (by decide +kernel)
theorem x_36_133 : Xp 36 d 133 [v0, v1, v2, (0, x)] st t g Q = Xp 36 d 134 [v0, v1, v2, (0, x)] ((0, x) :: st) t g Q := Xp_go (i := .iload_n 3) (len := 1) (by decide +kernel) rfl
theorem x_36_134 : Xp 36 d 134 ls ((0, a) :: (2, p) :: st) t g Q = ((hkJK p = 100 ∧ 0 ≤ a ∧ a < jL p) ∧ Xp 36 d 135 ls ((0, g p a) :: st) t g Q) := Xp_chk (i := .iaload) (len := 1) (by decide +kernel) rfl
theorem x_36_135 : Xp 36 d 135 ls ((0, x) :: (0, a) :: (2, p) :: st) t g Q = ((hkJK p = 100 ∧ (100 = 102 → x = 0 ∨ x = 1) ∧ 0 ≤ a ∧ a < jL p) ∧ Xp 36 d 136 ls st t (hkSet g p a x) Q) := Xp_chk (i := .iastore) (len := 1) (by decide +kernel) rfl
theorem x_36_136 : Xp 36 d 136 [(2, x), v1, v2, v3] st t g Q = Xp 36 d 137 [(2, x), v1, v2, v3] ((2, x) :: st) t g Q := Xp_go (i := .aload_n 0) (len := 1) (by decide +kernel) rfl
theorem x_36_137 : Xp 36 d 137 ls ((2, p) :: st) t g Q = (hkJK p = 1 ∧ jA p 7 ≤ t ∧ Xp 36 d 140 ls ((2, jR p 7) :: st) t g Q) := xr_getR (idx := 21) (ci := 1) (k := 7) (by decide +kernel) (by decide +kernel) (by decide +kernel)
theorem x_36_140 : Xp 36 d 140 [v0, v1, v2, (0, x)] st t g Q = Xp 36 d 141 [v0, v1, v2, (0, x)] ((0, x) :: st) t g Q := Xp_go (i := .iload_n 3) (len := 1) (by decide +kernel) rfl
theorem x_36_141 : Xp 36 d 141 ls st t g Q = Xp 36 d 142 ls ((0, 5) :: st) t g Q := xr_const (c := 5) (by decide +kernel) (by decide)
theorem x_36_142 : Xp 36 d 142 ls ((0, b) :: (0, a) :: st) t g Q = Xp 36 d 143 ls ((0, hkW (a * b)) :: st) t g Q := Xp_go (i := .imul) (len := 1) (by decide +kernel) rfl
theorem x_36_143 : Xp 36 d 143 [(2, x), v1, v2, v3] st t g Q = Xp 36 d 144 [(2, x), v1, v2, v3] ((2, x) :: st) t g Q := Xp_go (i := .aload_n 0) (len := 1) (by decide +kernel) rfl
theorem x_36_144 : Xp 36 d 144 ls ((2, p) :: st) t g Q = (hkJK p = 1 ∧ jA p 8 ≤ t ∧ Xp 36 d 147 ls ((2, jR p 8) :: st) t g Q) := xr_getR (idx := 24) (ci := 1) (k := 8) (by decide +kernel) (by decide +kernel) (by decide +kernel)
theorem x_36_147 : Xp 36 d 147 [v0, v1, v2, (0, x)] st t g Q = Xp 36 d 148 [v0, v1, v2, (0, x)] ((0, x) :: st) t g Q := Xp_go (i := .iload_n 3) (len := 1) (by decide +kernel) rfl
theorem x_36_148 : Xp 36 d 148 ls ((0, a) :: (2, p) :: st) t g Q = ((hkJK p = 100 ∧ 0 ≤ a ∧ a < jL p) ∧ Xp 36 d 149 ls ((0, g p a) :: st) t g Q) := Xp_chk (i := .iaload) (len := 1) (by decide +kernel) rfl
theorem x_36_149 : Xp 36 d 149 ls ((0, b) :: (0, a) :: st) t g Q = Xp 36 d 150 ls ((0, hkW (a + b)) :: st) t g Q := Xp_go (i := .iadd) (len := 1) (by decide +kernel) rfl
theorem x_36_150 : Xp 36 d 150 [(2, x), v1, v2, v3] st t g Q = Xp 36 d 151 [(2, x), v1, v2, v3] ((2, x) :: st) t g Q := Xp_go (i := .aload_n 0) (len := 1) (by decide +kernel) rfl
theorem x_36_151 : Xp 36 d 151 ls ((2, p) :: st) t g Q = (hkJK p = 1 ∧ Xp 36 d 154 ls ((0, g p 3) :: st) t g Q) := xr_getI (idx := 50) (ci := 1) (k := 3) (by decide +kernel) (by decide +kernel) (by decide +kernel)
theorem x_36_154 : Xp 36 d 154 ls ((0, x) :: (0, a) :: (2, p) :: st) t g Q = ((hkJK p = 100 ∧ (100 = 102 → x = 0 ∨ x = 1) ∧ 0 ≤ a ∧ a < jL p) ∧ Xp 36 d 155 ls st t (hkSet g p a x) Q) := Xp_chk (i := .iastore) (len := 1) (by decide +kernel) rfl
theorem x_36_155 : Xp 36 d 155 [(2, x), v1, v2, v3] st t g Q = Xp 36 d 156 [(2, x), v1, v2, v3] ((2, x) :: st) t g Q := Xp_go (i := .aload_n 0) (len := 1) (by decide +kernel) rfl
theorem x_36_156 : Xp 36 d 156 ls ((2, p) :: st) t g Q = (hkJK p = 1 ∧ jA p 8 ≤ t ∧ Xp 36 d 159 ls ((2, jR p 8) :: st) t g Q) := xr_getR (idx := 24) (ci := 1) (k := 8) (by decide +kernel) (by decide +kernel) (by decide +kernel)
theorem x_36_159 : Xp 36 d 159 [v0, v1, v2, (0, x)] st t g Q = Xp 36 d 160 [v0, v1, v2, (0, x)] ((0, x) :: st) t g Q := Xp_go (i := .iload_n 3) (len := 1) (by decide +kernel) rfl
theorem x_36_160 : Xp 36 d 160 ls (v :: w :: st) t g Q = ((hkP1 v ∧ hkP1 w) ∧ Xp 36 d 161 ls (v :: w :: v :: w :: st) t g Q) := Xp_chk (i := .dup2) (len := 1) (by decide +kernel) rfl
theorem x_36_161 : Xp 36 d 161 ls ((0, a) :: (2, p) :: st) t g Q = ((hkJK p = 100 ∧ 0 ≤ a ∧ a < jL p) ∧ Xp 36 d 162 ls ((0, g p a) :: st) t g Q) := Xp_chk (i := .iaload) (len := 1) (by decide +kernel) rfl
theorem x_36_162 : Xp 36 d 162 ls st t g Q = Xp 36 d 163 ls ((0, 1) :: st) t g Q := xr_const (c := 1) (by decide +kernel) (by decide)
theorem x_36_163 : Xp 36 d 163 ls ((0, b) :: (0, a) :: st) t g Q = Xp 36 d 164 ls ((0, hkW (a + b)) :: st) t g Q := Xp_go (i := .iadd) (len := 1) (by decide +kernel) rfl
theorem x_36_164 : Xp 36 d 164 ls ((0, x) :: (0, a) :: (2, p) :: st) t g Q = ((hkJK p = 100 ∧ (100 = 102 → x = 0 ∨ x = 1) ∧ 0 ≤ a ∧ a < jL p) ∧ Xp 36 d 165 ls st t (hkSet g p a x) Q) := Xp_chk (i := .iastore) (len := 1) (by decide +kernel) rfl
theorem x_36_165 : Xp 36 d 165 [(2, x), v1, v2, v3] st t g Q = Xp 36 d 166 [(2, x), v1, v2, v3] ((2, x) :: st) t g Q := Xp_go (i := .aload_n 0) (len := 1) (by decide +kernel) rfl
theorem x_36_166 : Xp 36 d 166 ls (v :: st) t g Q = (hkP1 v ∧ Xp 36 d 167 ls (v :: v :: st) t g Q) := Xp_chk (i := .dup) (len := 1) (by decide +kernel) rfl
theorem x_36_167 : Xp 36 d 167 ls ((2, p) :: st) t g Q = (hkJK p = 1 ∧ Xp 36 d 170 ls ((0, g p 3) :: st) t g Q) := xr_getI (idx := 50) (ci := 1) (k := 3) (by decide +kernel) (by decide +kernel) (by decide +kernel)
theorem x_36_170 : Xp 36 d 170 ls st t g Q = Xp 36 d 171 ls ((0, 1) :: st) t g Q := xr_const (c := 1) (by decide +kernel) (by decide)
theorem x_36_171 : Xp 36 d 171 ls ((0, b) :: (0, a) :: st) t g Q = Xp 36 d 172 ls ((0, hkW (a + b)) :: st) t g Q := Xp_go (i := .iadd) (len := 1) (by decide +kernel) rfl
theorem x_36_172 : Xp 36 d 172 ls ((0, x) :: (2, p) :: st) t g Q = (hkJK p = 1 ∧ Xp 36 d 175 ls st t (hkSet g p 3 x) Q) := xr_putI (idx := 50) (ci := 1) (k := 3) (by decide +kernel) (by decide +kernel) (by decide +kernel)
theorem x_36_175 : Xp 36 d 175 ls [] t g Q = Q none t g := xr_retV (by decide +kernel) (by decide +kernel)
-- 37: HookBoxes$Box.beadOf(II)I
theorem x_37_0 : Xp 37 d 0 [v0, (0, x), v2] st t g Q = Xp 37 d 1 [v0, (0, x), v2] ((0, x) :: st) t g Q := Xp_go (i := .iload_n 1) (len := 1) (by decide +kernel) rfl
theorem x_37_1 : Xp 37 d 1 [(2, x), v1, v2] st t g Q = Xp 37 d 2 [(2, x), v1, v2] ((2, x) :: st) t g Q := Xp_go (i := .aload_n 0) (len := 1) (by decide +kernel) rfl
theorem x_37_2 : Xp 37 d 2 ls ((2, p) :: st) t g Q = (hkJK p = 1 ∧ Xp 37 d 5 ls ((0, g p 0) :: st) t g Q) := xr_getI (idx := 40) (ci := 1) (k := 0) (by decide +kernel) (by decide +kernel) (by decide +kernel)
theorem x_37_5 : Xp 37 d 5 ls ((0, b) :: (0, a) :: st) t g Q = Xp 37 d 6 ls ((0, hkW (a + b)) :: st) t g Q := Xp_go (i := .iadd) (len := 1) (by decide +kernel) rfl
theorem x_37_6 : Xp 37 d 6 ls st t g Q = Xp 37 d 7 ls ((0, 1) :: st) t g Q := xr_const (c := 1) (by decide +kernel) (by decide)
theorem x_37_7 : Xp 37 d 7 ls ((0, b) :: (0, a) :: st) t g Q = Xp 37 d 8 ls ((0, hkW (a - b)) :: st) t g Q := Xp_go (i := .isub) (len := 1) (by decide +kernel) rfl
theorem x_37_8 : Xp 37 d 8 [v0, v1, (0, x)] st t g Q = Xp 37 d 9 [v0, v1, (0, x)] ((0, x) :: st) t g Q := Xp_go (i := .iload_n 2) (len := 1) (by decide +kernel) rfl
theorem x_37_9 : Xp 37 d 9 ls ((0, b) :: (0, a) :: st) t g Q = Xp 37 d 10 ls ((0, hkW (a - b)) :: st) t g Q := Xp_go (i := .isub) (len := 1) (by decide +kernel) rfl
theorem x_37_10 : Xp 37 d 10 ls [(0, x)] t g Q = Q (some (0, x)) t g := xr_retI (by decide +kernel) (by decide +kernel)
-- 38: HookBoxes$Box.withWord(I)I
theorem x_38_0 : Xp 38 d 0 [v0, (0, x)] st t g Q = Xp 38 d 1 [v0, (0, x)] ((0, x) :: st) t g Q := Xp_go (i := .iload_n 1) (len := 1) (by decide +kernel) rfl
theorem x_38_1 : Xp 38 d 1 ls ((0, a) :: st) t g Q = ((a < 0 → Xp 38 d 22 ls st t g Q) ∧ (¬ (a < 0) → Xp 38 d 4 ls st t g Q)) := xr_if1 (cd := .lt) (off := 21) (by decide +kernel) (by decide)
theorem x_38_4 : Xp 38 d 4 [v0, (0, x)] st t g Q = Xp 38 d 5 [v0, (0, x)] ((0, x) :: st) t g Q := Xp_go (i := .iload_n 1) (len := 1) (by decide +kernel) rfl
theorem x_38_5 : Xp 38 d 5 [(2, x), v1] st t g Q = Xp 38 d 6 [(2, x), v1] ((2, x) :: st) t g Q := Xp_go (i := .aload_n 0) (len := 1) (by decide +kernel) rfl
theorem x_38_6 : Xp 38 d 6 ls ((2, p) :: st) t g Q = (hkJK p = 1 ∧ jA p 10 ≤ t ∧ Xp 38 d 9 ls ((2, jR p 10) :: st) t g Q) := xr_getR (idx := 30) (ci := 1) (k := 10) (by decide +kernel) (by decide +kernel) (by decide +kernel)
theorem x_38_9 : Xp 38 d 9 ls ((2, p) :: st) t g Q = ((100 ≤ hkJK p ∧ hkJK p ≤ 104) ∧ Xp 38 d 10 ls ((0, jL p) :: st) t g Q) := Xp_chk (i := .arraylength) (len := 1) (by decide +kernel) rfl
theorem x_38_10 : Xp 38 d 10 ls ((0, b) :: (0, a) :: st) t g Q = ((b ≤ a → Xp 38 d 22 ls st t g Q) ∧ (¬ (b ≤ a) → Xp 38 d 13 ls st t g Q)) := xr_if2 (cd := .ge) (off := 12) (by decide +kernel) (by decide)
theorem x_38_13 : Xp 38 d 13 [(2, x), v1] st t g Q = Xp 38 d 14 [(2, x), v1] ((2, x) :: st) t g Q := Xp_go (i := .aload_n 0) (len := 1) (by decide +kernel) rfl
theorem x_38_14 : Xp 38 d 14 ls ((2, p) :: st) t g Q = (hkJK p = 1 ∧ jA p 10 ≤ t ∧ Xp 38 d 17 ls ((2, jR p 10) :: st) t g Q) := xr_getR (idx := 30) (ci := 1) (k := 10) (by decide +kernel) (by decide +kernel) (by decide +kernel)
theorem x_38_17 : Xp 38 d 17 [v0, (0, x)] st t g Q = Xp 38 d 18 [v0, (0, x)] ((0, x) :: st) t g Q := Xp_go (i := .iload_n 1) (len := 1) (by decide +kernel) rfl
theorem x_38_18 : Xp 38 d 18 ls ((0, a) :: (2, p) :: st) t g Q = ((hkJK p = 100 ∧ 0 ≤ a ∧ a < jL p) ∧ Xp 38 d 19 ls ((0, g p a) :: st) t g Q) := Xp_chk (i := .iaload) (len := 1) (by decide +kernel) rfl
theorem x_38_19 : Xp 38 d 19 ls st t g Q = Xp 38 d 23 ls st t g Q := xr_goto (off := 4) (by decide +kernel) (by decide)
theorem x_38_22 : Xp 38 d 22 ls st t g Q = Xp 38 d 23 ls ((0, -1) :: st) t g Q := xr_const (c := -1) (by decide +kernel) (by decide)
theorem x_38_23 : Xp 38 d 23 ls [(0, x)] t g Q = Q (some (0, x)) t g := xr_retI (by decide +kernel) (by decide +kernel)
-- 39: HookBoxes$Box.isShape(I)Z
theorem x_39_0 : Xp 39 d 0 [v0, (0, x)] st t g Q = Xp 39 d 1 [v0, (0, x)] ((0, x) :: st) t g Q := Xp_go (i := .iload_n 1) (len := 1) (by decide +kernel) rfl
theorem x_39_1 : Xp 39 d 1 ls ((0, a) :: st) t g Q = ((a < 0 → Xp 39 d 16 ls st t g Q) ∧ (¬ (a < 0) → Xp 39 d 4 ls st t g Q)) := xr_if1 (cd := .lt) (off := 15) (by decide +kernel) (by decide)
theorem x_39_4 : Xp 39 d 4 [v0, (0, x)] st t g Q = Xp 39 d 5 [v0, (0, x)] ((0, x) :: st) t g Q := Xp_go (i := .iload_n 1) (len := 1) (by decide +kernel) rfl
theorem x_39_5 : Xp 39 d 5 [(2, x), v1] st t g Q = Xp 39 d 6 [(2, x), v1] ((2, x) :: st) t g Q := Xp_go (i := .aload_n 0) (len := 1) (by decide +kernel) rfl
theorem x_39_6 : Xp 39 d 6 ls ((2, p) :: st) t g Q = (hkJK p = 1 ∧ Xp 39 d 9 ls ((0, g p 3) :: st) t g Q) := xr_getI (idx := 50) (ci := 1) (k := 3) (by decide +kernel) (by decide +kernel) (by decide +kernel)
theorem x_39_9 : Xp 39 d 9 ls ((0, b) :: (0, a) :: st) t g Q = ((b ≤ a → Xp 39 d 16 ls st t g Q) ∧ (¬ (b ≤ a) → Xp 39 d 12 ls st t g Q)) := xr_if2 (cd := .ge) (off := 7) (by decide +kernel) (by decide)
theorem x_39_12 : Xp 39 d 12 ls st t g Q = Xp 39 d 13 ls ((0, 1) :: st) t g Q := xr_const (c := 1) (by decide +kernel) (by decide)
theorem x_39_13 : Xp 39 d 13 ls st t g Q = Xp 39 d 17 ls st t g Q := xr_goto (off := 4) (by decide +kernel) (by decide)
theorem x_39_16 : Xp 39 d 16 ls st t g Q = Xp 39 d 17 ls ((0, 0) :: st) t g Q := xr_const (c := 0) (by decide +kernel) (by decide)
theorem x_39_17 : Xp 39 d 17 ls [(0, x)] t g Q = ((x = 0 ∨ x = 1) ∧ Q (some (0, x)) t g) := xr_retZ (by decide +kernel) (by decide +kernel)
-- 40: HookBoxes$Box.numbered(I)I
theorem x_40_0 : Xp 40 d 0 ls st t g Q = Xp 40 d 1 ls ((0, 0) :: st) t g Q := xr_const (c := 0) (by decide +kernel) (by decide)
theorem x_40_1 : Xp 40 d 1 [v0, v1, v2, v3, v4, v5, v6, v7] ((0, x) :: st) t g Q = (hkP1 v1 ∧ Xp 40 d 2 [v0, v1, (0, x), v3, v4, v5, v6, v7] st t g Q) := Xp_chk (i := .istore_n 2) (len := 1) (by decide +kernel) rfl
theorem x_40_2 : Xp 40 d 2 [v0, (0, x), v2, v3, v4, v5, v6, v7] st t g Q = Xp 40 d 3 [v0, (0, x), v2, v3, v4, v5, v6, v7] ((0, x) :: st) t g Q := Xp_go (i := .iload_n 1) (len := 1) (by decide +kernel) rfl
theorem x_40_3 : Xp 40 d 3 [v0, v1, v2, v3, v4, v5, v6, v7] ((0, x) :: st) t g Q = (hkP1 v2 ∧ Xp 40 d 4 [v0, v1, v2, (0, x), v4, v5, v6, v7] st t g Q) := Xp_chk (i := .istore_n 3) (len := 1) (by decide +kernel) rfl
theorem x_40_4 : Xp 40 d 4 [v0, v1, v2, (0, x), v4, v5, v6, v7] st t g Q = Xp 40 d 5 [v0, v1, v2, (0, x), v4, v5, v6, v7] ((0, x) :: st) t g Q := Xp_go (i := .iload_n 3) (len := 1) (by decide +kernel) rfl
theorem x_40_5 : Xp 40 d 5 ls ((0, a) :: st) t g Q = ((a ≤ 0 → Xp 40 d 19 ls st t g Q) ∧ (¬ (a ≤ 0) → Xp 40 d 8 ls st t g Q)) := xr_if1 (cd := .le) (off := 14) (by decide +kernel) (by decide)
theorem x_40_8 : Xp 40 d 8 [v0, v1, (0, x), v3, v4, v5, v6, v7] st t g Q = (hkP1 v1 ∧ Xp 40 d 11 [v0, v1, (0, hkW (x + 1)), v3, v4, v5, v6, v7] st t g Q) := Xp_chk (i := .iinc 2 (1)) (len := 3) (by decide +kernel) rfl
theorem x_40_11 : Xp 40 d 11 [v0, v1, v2, (0, x), v4, v5, v6, v7] st t g Q = Xp 40 d 12 [v0, v1, v2, (0, x), v4, v5, v6, v7] ((0, x) :: st) t g Q := Xp_go (i := .iload_n 3) (len := 1) (by decide +kernel) rfl
theorem x_40_12 : Xp 40 d 12 ls st t g Q = Xp 40 d 14 ls ((0, 10) :: st) t g Q := xr_bi (c := 10) (by decide +kernel) (by decide)
theorem x_40_14 : Xp 40 d 14 ls ((0, b) :: (0, a) :: st) t g Q = (b ≠ 0 ∧ Xp 40 d 15 ls ((0, hkW (a.tdiv b)) :: st) t g Q) := Xp_chk (i := .idiv) (len := 1) (by decide +kernel) rfl
theorem x_40_15 : Xp 40 d 15 [v0, v1, v2, v3, v4, v5, v6, v7] ((0, x) :: st) t g Q = (hkP1 v2 ∧ Xp 40 d 16 [v0, v1, v2, (0, x), v4, v5, v6, v7] st t g Q) := Xp_chk (i := .istore_n 3) (len := 1) (by decide +kernel) rfl
theorem x_40_16 : Xp 40 d 16 ls st t g Q = Xp 40 d 4 ls st t g Q := xr_goto (off := -12) (by decide +kernel) (by decide)
theorem x_40_19 : Xp 40 d 19 [v0, v1, (0, x), v3, v4, v5, v6, v7] st t g Q = Xp 40 d 20 [v0, v1, (0, x), v3, v4, v5, v6, v7] ((0, x) :: st) t g Q := Xp_go (i := .iload_n 2) (len := 1) (by decide +kernel) rfl
theorem x_40_20 : Xp 40 d 20 [(2, x), v1, v2, v3, v4, v5, v6, v7] st t g Q = Xp 40 d 21 [(2, x), v1, v2, v3, v4, v5, v6, v7] ((2, x) :: st) t g Q := Xp_go (i := .aload_n 0) (len := 1) (by decide +kernel) rfl
theorem x_40_21 : Xp 40 d 21 ls ((2, p) :: st) t g Q = (hkJK p = 1 ∧ Xp 40 d 24 ls ((0, g p 0) :: st) t g Q) := xr_getI (idx := 40) (ci := 1) (k := 0) (by decide +kernel) (by decide +kernel) (by decide +kernel)
theorem x_40_24 : Xp 40 d 24 ls ((0, b) :: (0, a) :: st) t g Q = ((a ≤ b → Xp 40 d 29 ls st t g Q) ∧ (¬ (a ≤ b) → Xp 40 d 27 ls st t g Q)) := xr_if2 (cd := .le) (off := 5) (by decide +kernel) (by decide)
theorem x_40_27 : Xp 40 d 27 ls st t g Q = Xp 40 d 28 ls ((0, -1) :: st) t g Q := xr_const (c := -1) (by decide +kernel) (by decide)
theorem x_40_28 : Xp 40 d 28 ls [(0, x)] t g Q = Q (some (0, x)) t g := xr_retI (by decide +kernel) (by decide +kernel)
theorem x_40_29 : Xp 40 d 29 ls st t g Q = Xp 40 d 30 ls ((0, 1) :: st) t g Q := xr_const (c := 1) (by decide +kernel) (by decide)
theorem x_40_30 : Xp 40 d 30 [(2, x), v1, v2, v3, v4, v5, v6, v7] st t g Q = Xp 40 d 31 [(2, x), v1, v2, v3, v4, v5, v6, v7] ((2, x) :: st) t g Q := Xp_go (i := .aload_n 0) (len := 1) (by decide +kernel) rfl
theorem x_40_31 : Xp 40 d 31 ls ((2, p) :: st) t g Q = (hkJK p = 1 ∧ Xp 40 d 34 ls ((0, g p 0) :: st) t g Q) := xr_getI (idx := 40) (ci := 1) (k := 0) (by decide +kernel) (by decide +kernel) (by decide +kernel)
theorem x_40_34 : Xp 40 d 34 [v0, v1, (0, x), v3, v4, v5, v6, v7] st t g Q = Xp 40 d 35 [v0, v1, (0, x), v3, v4, v5, v6, v7] ((0, x) :: st) t g Q := Xp_go (i := .iload_n 2) (len := 1) (by decide +kernel) rfl
theorem x_40_35 : Xp 40 d 35 ls ((0, b) :: (0, a) :: st) t g Q = Xp 40 d 36 ls ((0, hkW (a - b)) :: st) t g Q := Xp_go (i := .isub) (len := 1) (by decide +kernel) rfl
theorem x_40_36 : Xp 40 d 36 ls ((0, b) :: (0, a) :: st) t g Q = Xp 40 d 37 ls ((0, hkShl a b) :: st) t g Q := Xp_go (i := .ishl) (len := 1) (by decide +kernel) rfl
theorem x_40_37 : Xp 40 d 37 ls st t g Q = Xp 40 d 38 ls ((0, 1) :: st) t g Q := xr_const (c := 1) (by decide +kernel) (by decide)
theorem x_40_38 : Xp 40 d 38 ls ((0, b) :: (0, a) :: st) t g Q = Xp 40 d 39 ls ((0, hkW (a - b)) :: st) t g Q := Xp_go (i := .isub) (len := 1) (by decide +kernel) rfl
theorem x_40_39 : Xp 40 d 39 [v0, v1, v2, v3, v4, v5, v6, v7] ((0, x) :: st) t g Q = (hkP1 v2 ∧ Xp 40 d 40 [v0, v1, v2, (0, x), v4, v5, v6, v7] st t g Q) := Xp_chk (i := .istore_n 3) (len := 1) (by decide +kernel) rfl
theorem x_40_40 : Xp 40 d 40 [v0, (0, x), v2, v3, v4, v5, v6, v7] st t g Q = Xp 40 d 41 [v0, (0, x), v2, v3, v4, v5, v6, v7] ((0, x) :: st) t g Q := Xp_go (i := .iload_n 1) (len := 1) (by decide +kernel) rfl
theorem x_40_41 : Xp 40 d 41 [v0, v1, v2, v3, v4, v5, v6, v7] ((0, x) :: st) t g Q = (hkP1 v3 ∧ Xp 40 d 43 [v0, v1, v2, v3, (0, x), v5, v6, v7] st t g Q) := Xp_chk (i := .istore 4) (len := 2) (by decide +kernel) rfl
theorem x_40_43 : Xp 40 d 43 ls st t g Q = Xp 40 d 44 ls ((0, 1) :: st) t g Q := xr_const (c := 1) (by decide +kernel) (by decide)
theorem x_40_44 : Xp 40 d 44 [v0, v1, v2, v3, v4, v5, v6, v7] ((0, x) :: st) t g Q = (hkP1 v4 ∧ Xp 40 d 46 [v0, v1, v2, v3, v4, (0, x), v6, v7] st t g Q) := Xp_chk (i := .istore 5) (len := 2) (by decide +kernel) rfl
theorem x_40_46 : Xp 40 d 46 [v0, v1, (0, x), v3, v4, v5, v6, v7] st t g Q = Xp 40 d 47 [v0, v1, (0, x), v3, v4, v5, v6, v7] ((0, x) :: st) t g Q := Xp_go (i := .iload_n 2) (len := 1) (by decide +kernel) rfl
theorem x_40_47 : Xp 40 d 47 ls st t g Q = Xp 40 d 48 ls ((0, 1) :: st) t g Q := xr_const (c := 1) (by decide +kernel) (by decide)
theorem x_40_48 : Xp 40 d 48 ls ((0, b) :: (0, a) :: st) t g Q = Xp 40 d 49 ls ((0, hkW (a - b)) :: st) t g Q := Xp_go (i := .isub) (len := 1) (by decide +kernel) rfl
theorem x_40_49 : Xp 40 d 49 [v0, v1, v2, v3, v4, v5, v6, v7] ((0, x) :: st) t g Q = (hkP1 v5 ∧ Xp 40 d 51 [v0, v1, v2, v3, v4, v5, (0, x), v7] st t g Q) := Xp_chk (i := .istore 6) (len := 2) (by decide +kernel) rfl
theorem x_40_51 : Xp 40 d 51 [v0, v1, v2, v3, v4, v5, (0, x), v7] st t g Q = Xp 40 d 53 [v0, v1, v2, v3, v4, v5, (0, x), v7] ((0, x) :: st) t g Q := Xp_go (i := .iload 6) (len := 2) (by decide +kernel) rfl
theorem x_40_53 : Xp 40 d 53 ls ((0, a) :: st) t g Q = ((a < 0 → Xp 40 d 111 ls st t g Q) ∧ (¬ (a < 0) → Xp 40 d 56 ls st t g Q)) := xr_if1 (cd := .lt) (off := 58) (by decide +kernel) (by decide)
theorem x_40_56 : Xp 40 d 56 [v0, v1, v2, v3, (0, x), v5, v6, v7] st t g Q = Xp 40 d 58 [v0, v1, v2, v3, (0, x), v5, v6, v7] ((0, x) :: st) t g Q := Xp_go (i := .iload 4) (len := 2) (by decide +kernel) rfl
theorem x_40_58 : Xp 40 d 58 ls st t g Q = Xp 40 d 60 ls ((0, 10) :: st) t g Q := xr_bi (c := 10) (by decide +kernel) (by decide)
theorem x_40_60 : Xp 40 d 60 ls ((0, b) :: (0, a) :: st) t g Q = (b ≠ 0 ∧ Xp 40 d 61 ls ((0, a.tmod b) :: st) t g Q) := Xp_chk (i := .irem) (len := 1) (by decide +kernel) rfl
theorem x_40_61 : Xp 40 d 61 [v0, v1, v2, v3, v4, v5, v6, v7] ((0, x) :: st) t g Q = (hkP1 v6 ∧ Xp 40 d 63 [v0, v1, v2, v3, v4, v5, v6, (0, x)] st t g Q) := Xp_chk (i := .istore 7) (len := 2) (by decide +kernel) rfl
theorem x_40_63 : Xp 40 d 63 [v0, v1, v2, v3, v4, v5, v6, (0, x)] st t g Q = Xp 40 d 65 [v0, v1, v2, v3, v4, v5, v6, (0, x)] ((0, x) :: st) t g Q := Xp_go (i := .iload 7) (len := 2) (by decide +kernel) rfl
theorem x_40_65 : Xp 40 d 65 [v0, v1, v2, v3, v4, (0, x), v6, v7] st t g Q = Xp 40 d 67 [v0, v1, v2, v3, v4, (0, x), v6, v7] ((0, x) :: st) t g Q := Xp_go (i := .iload 5) (len := 2) (by decide +kernel) rfl
theorem x_40_67 : Xp 40 d 67 ls ((0, b) :: (0, a) :: st) t g Q = ((a < b → Xp 40 d 79 ls st t g Q) ∧ (¬ (a < b) → Xp 40 d 70 ls st t g Q)) := xr_if2 (cd := .lt) (off := 12) (by decide +kernel) (by decide)
theorem x_40_70 : Xp 40 d 70 [v0, v1, v2, v3, v4, v5, v6, (0, x)] st t g Q = Xp 40 d 72 [v0, v1, v2, v3, v4, v5, v6, (0, x)] ((0, x) :: st) t g Q := Xp_go (i := .iload 7) (len := 2) (by decide +kernel) rfl
theorem x_40_72 : Xp 40 d 72 [(2, x), v1, v2, v3, v4, v5, v6, v7] st t g Q = Xp 40 d 73 [(2, x), v1, v2, v3, v4, v5, v6, v7] ((2, x) :: st) t g Q := Xp_go (i := .aload_n 0) (len := 1) (by decide +kernel) rfl
theorem x_40_73 : Xp 40 d 73 ls ((2, p) :: st) t g Q = (hkJK p = 1 ∧ Xp 40 d 76 ls ((0, g p 2) :: st) t g Q) := xr_getI (idx := 47) (ci := 1) (k := 2) (by decide +kernel) (by decide +kernel) (by decide +kernel)
theorem x_40_76 : Xp 40 d 76 ls ((0, b) :: (0, a) :: st) t g Q = ((a ≤ b → Xp 40 d 81 ls st t g Q) ∧ (¬ (a ≤ b) → Xp 40 d 79 ls st t g Q)) := xr_if2 (cd := .le) (off := 5) (by decide +kernel) (by decide)
theorem x_40_79 : Xp 40 d 79 ls st t g Q = Xp 40 d 80 ls ((0, -1) :: st) t g Q := xr_const (c := -1) (by decide +kernel) (by decide)
theorem x_40_80 : Xp 40 d 80 ls [(0, x)] t g Q = Q (some (0, x)) t g := xr_retI (by decide +kernel) (by decide +kernel)
theorem x_40_81 : Xp 40 d 81 [v0, v1, v2, (0, x), v4, v5, v6, v7] st t g Q = Xp 40 d 82 [v0, v1, v2, (0, x), v4, v5, v6, v7] ((0, x) :: st) t g Q := Xp_go (i := .iload_n 3) (len := 1) (by decide +kernel) rfl
theorem x_40_82 : Xp 40 d 82 ls st t g Q = Xp 40 d 83 ls ((0, 1) :: st) t g Q := xr_const (c := 1) (by decide +kernel) (by decide)
theorem x_40_83 : Xp 40 d 83 [(2, x), v1, v2, v3, v4, v5, v6, v7] st t g Q = Xp 40 d 84 [(2, x), v1, v2, v3, v4, v5, v6, v7] ((2, x) :: st) t g Q := Xp_go (i := .aload_n 0) (len := 1) (by decide +kernel) rfl
theorem x_40_84 : Xp 40 d 84 [v0, v1, v2, v3, v4, v5, v6, (0, x)] st t g Q = Xp 40 d 86 [v0, v1, v2, v3, v4, v5, v6, (0, x)] ((0, x) :: st) t g Q := Xp_go (i := .iload 7) (len := 2) (by decide +kernel) rfl
theorem x_40_86 : Xp 40 d 86 [v0, v1, v2, v3, v4, v5, (0, x), v7] st t g Q = Xp 40 d 88 [v0, v1, v2, v3, v4, v5, (0, x), v7] ((0, x) :: st) t g Q := Xp_go (i := .iload 6) (len := 2) (by decide +kernel) rfl
theorem x_40_88 : Xp 40 (d + 1) 88 ls ((0, a2) :: (0, a1) :: (2, a0) :: st) t g Q = (hkJK a0 = 1 ∧ hkC8 st ∧ Xp 37 d 0 [(2, a0), (0, a1), (0, a2)] [] t g (fun r t g => Xp 40 (d + 1) 91 ls (hkPush r st) t g Q)) := xr_invV (idx := 72) (y' := 37) (ci := 1) (tg := [2, 0, 0]) (by decide +kernel) (by decide +kernel) (by decide +kernel) (by decide +kernel) rfl rfl rfl
theorem x_40_91 : Xp 40 d 91 ls ((0, b) :: (0, a) :: st) t g Q = Xp 40 d 92 ls ((0, hkShl a b) :: st) t g Q := Xp_go (i := .ishl) (len := 1) (by decide +kernel) rfl
theorem x_40_92 : Xp 40 d 92 ls ((0, b) :: (0, a) :: st) t g Q = Xp 40 d 93 ls ((0, hkOr a b) :: st) t g Q := Xp_go (i := .ior) (len := 1) (by decide +kernel) rfl
theorem x_40_93 : Xp 40 d 93 [v0, v1, v2, v3, v4, v5, v6, v7] ((0, x) :: st) t g Q = (hkP1 v2 ∧ Xp 40 d 94 [v0, v1, v2, (0, x), v4, v5, v6, v7] st t g Q) := Xp_chk (i := .istore_n 3) (len := 1) (by decide +kernel) rfl
theorem x_40_94 : Xp 40 d 94 [v0, v1, v2, v3, v4, v5, v6, (0, x)] st t g Q = Xp 40 d 96 [v0, v1, v2, v3, v4, v5, v6, (0, x)] ((0, x) :: st) t g Q := Xp_go (i := .iload 7) (len := 2) (by decide +kernel) rfl
theorem x_40_96 : Xp 40 d 96 [v0, v1, v2, v3, v4, v5, v6, v7] ((0, x) :: st) t g Q = (hkP1 v4 ∧ Xp 40 d 98 [v0, v1, v2, v3, v4, (0, x), v6, v7] st t g Q) := Xp_chk (i := .istore 5) (len := 2) (by decide +kernel) rfl
theorem x_40_98 : Xp 40 d 98 [v0, v1, v2, v3, (0, x), v5, v6, v7] st t g Q = Xp 40 d 100 [v0, v1, v2, v3, (0, x), v5, v6, v7] ((0, x) :: st) t g Q := Xp_go (i := .iload 4) (len := 2) (by decide +kernel) rfl
theorem x_40_100 : Xp 40 d 100 ls st t g Q = Xp 40 d 102 ls ((0, 10) :: st) t g Q := xr_bi (c := 10) (by decide +kernel) (by decide)
theorem x_40_102 : Xp 40 d 102 ls ((0, b) :: (0, a) :: st) t g Q = (b ≠ 0 ∧ Xp 40 d 103 ls ((0, hkW (a.tdiv b)) :: st) t g Q) := Xp_chk (i := .idiv) (len := 1) (by decide +kernel) rfl
theorem x_40_103 : Xp 40 d 103 [v0, v1, v2, v3, v4, v5, v6, v7] ((0, x) :: st) t g Q = (hkP1 v3 ∧ Xp 40 d 105 [v0, v1, v2, v3, (0, x), v5, v6, v7] st t g Q) := Xp_chk (i := .istore 4) (len := 2) (by decide +kernel) rfl
theorem x_40_105 : Xp 40 d 105 [v0, v1, v2, v3, v4, v5, (0, x), v7] st t g Q = (hkP1 v5 ∧ Xp 40 d 108 [v0, v1, v2, v3, v4, v5, (0, hkW (x + -1)), v7] st t g Q) := Xp_chk (i := .iinc 6 (-1)) (len := 3) (by decide +kernel) rfl
theorem x_40_108 : Xp 40 d 108 ls st t g Q = Xp 40 d 51 ls st t g Q := xr_goto (off := -57) (by decide +kernel) (by decide)
theorem x_40_111 : Xp 40 d 111 [(2, x), v1, v2, v3, v4, v5, v6, v7] st t g Q = Xp 40 d 112 [(2, x), v1, v2, v3, v4, v5, v6, v7] ((2, x) :: st) t g Q := Xp_go (i := .aload_n 0) (len := 1) (by decide +kernel) rfl
theorem x_40_112 : Xp 40 d 112 [v0, v1, v2, (0, x), v4, v5, v6, v7] st t g Q = Xp 40 d 113 [v0, v1, v2, (0, x), v4, v5, v6, v7] ((0, x) :: st) t g Q := Xp_go (i := .iload_n 3) (len := 1) (by decide +kernel) rfl
theorem x_40_113 : Xp 40 (d + 1) 113 ls ((0, a1) :: (2, a0) :: st) t g Q = (hkJK a0 = 1 ∧ hkC8 st ∧ Xp 38 d 0 [(2, a0), (0, a1)] [] t g (fun r t g => Xp 40 (d + 1) 116 ls (hkPush r st) t g Q)) := xr_invV (idx := 81) (y' := 38) (ci := 1) (tg := [2, 0]) (by decide +kernel) (by decide +kernel) (by decide +kernel) (by decide +kernel) rfl rfl rfl
theorem x_40_116 : Xp 40 d 116 ls [(0, x)] t g Q = Q (some (0, x)) t g := xr_retI (by decide +kernel) (by decide +kernel)
-- 41: HookBoxes$Box.filledRows(I)I
theorem x_41_0 : Xp 41 d 0 ls st t g Q = Xp 41 d 1 ls ((0, 0) :: st) t g Q := xr_const (c := 0) (by decide +kernel) (by decide)
theorem x_41_1 : Xp 41 d 1 [v0, v1, v2, v3] ((0, x) :: st) t g Q = (hkP1 v1 ∧ Xp 41 d 2 [v0, v1, (0, x), v3] st t g Q) := Xp_chk (i := .istore_n 2) (len := 1) (by decide +kernel) rfl
theorem x_41_2 : Xp 41 d 2 ls st t g Q = Xp 41 d 3 ls ((0, 0) :: st) t g Q := xr_const (c := 0) (by decide +kernel) (by decide)
theorem x_41_3 : Xp 41 d 3 [v0, v1, v2, v3] ((0, x) :: st) t g Q = (hkP1 v2 ∧ Xp 41 d 4 [v0, v1, v2, (0, x)] st t g Q) := Xp_chk (i := .istore_n 3) (len := 1) (by decide +kernel) rfl
theorem x_41_4 : Xp 41 d 4 [v0, v1, v2, (0, x)] st t g Q = Xp 41 d 5 [v0, v1, v2, (0, x)] ((0, x) :: st) t g Q := Xp_go (i := .iload_n 3) (len := 1) (by decide +kernel) rfl
theorem x_41_5 : Xp 41 d 5 [(2, x), v1, v2, v3] st t g Q = Xp 41 d 6 [(2, x), v1, v2, v3] ((2, x) :: st) t g Q := Xp_go (i := .aload_n 0) (len := 1) (by decide +kernel) rfl
theorem x_41_6 : Xp 41 d 6 ls ((2, p) :: st) t g Q = (hkJK p = 1 ∧ Xp 41 d 9 ls ((0, g p 0) :: st) t g Q) := xr_getI (idx := 40) (ci := 1) (k := 0) (by decide +kernel) (by decide +kernel) (by decide +kernel)
theorem x_41_9 : Xp 41 d 9 ls ((0, b) :: (0, a) :: st) t g Q = ((b ≤ a → Xp 41 d 34 ls st t g Q) ∧ (¬ (b ≤ a) → Xp 41 d 12 ls st t g Q)) := xr_if2 (cd := .ge) (off := 25) (by decide +kernel) (by decide)
theorem x_41_12 : Xp 41 d 12 [(2, x), v1, v2, v3] st t g Q = Xp 41 d 13 [(2, x), v1, v2, v3] ((2, x) :: st) t g Q := Xp_go (i := .aload_n 0) (len := 1) (by decide +kernel) rfl
theorem x_41_13 : Xp 41 d 13 ls ((2, p) :: st) t g Q = (hkJK p = 1 ∧ jA p 4 ≤ t ∧ Xp 41 d 16 ls ((2, jR p 4) :: st) t g Q) := xr_getR (idx := 9) (ci := 1) (k := 4) (by decide +kernel) (by decide +kernel) (by decide +kernel)
theorem x_41_16 : Xp 41 d 16 [v0, (0, x), v2, v3] st t g Q = Xp 41 d 17 [v0, (0, x), v2, v3] ((0, x) :: st) t g Q := Xp_go (i := .iload_n 1) (len := 1) (by decide +kernel) rfl
theorem x_41_17 : Xp 41 d 17 ls st t g Q = Xp 41 d 18 ls ((0, 4) :: st) t g Q := xr_const (c := 4) (by decide +kernel) (by decide)
theorem x_41_18 : Xp 41 d 18 ls ((0, b) :: (0, a) :: st) t g Q = Xp 41 d 19 ls ((0, hkW (a * b)) :: st) t g Q := Xp_go (i := .imul) (len := 1) (by decide +kernel) rfl
theorem x_41_19 : Xp 41 d 19 [v0, v1, v2, (0, x)] st t g Q = Xp 41 d 20 [v0, v1, v2, (0, x)] ((0, x) :: st) t g Q := Xp_go (i := .iload_n 3) (len := 1) (by decide +kernel) rfl
theorem x_41_20 : Xp 41 d 20 ls ((0, b) :: (0, a) :: st) t g Q = Xp 41 d 21 ls ((0, hkW (a + b)) :: st) t g Q := Xp_go (i := .iadd) (len := 1) (by decide +kernel) rfl
theorem x_41_21 : Xp 41 d 21 ls ((0, a) :: (2, p) :: st) t g Q = ((hkJK p = 100 ∧ 0 ≤ a ∧ a < jL p) ∧ Xp 41 d 22 ls ((0, g p a) :: st) t g Q) := Xp_chk (i := .iaload) (len := 1) (by decide +kernel) rfl
theorem x_41_22 : Xp 41 d 22 ls ((0, a) :: st) t g Q = ((a ≤ 0 → Xp 41 d 28 ls st t g Q) ∧ (¬ (a ≤ 0) → Xp 41 d 25 ls st t g Q)) := xr_if1 (cd := .le) (off := 6) (by decide +kernel) (by decide)
theorem x_41_25 : Xp 41 d 25 [v0, v1, (0, x), v3] st t g Q = (hkP1 v1 ∧ Xp 41 d 28 [v0, v1, (0, hkW (x + 1)), v3] st t g Q) := Xp_chk (i := .iinc 2 (1)) (len := 3) (by decide +kernel) rfl
theorem x_41_28 : Xp 41 d 28 [v0, v1, v2, (0, x)] st t g Q = (hkP1 v2 ∧ Xp 41 d 31 [v0, v1, v2, (0, hkW (x + 1))] st t g Q) := Xp_chk (i := .iinc 3 (1)) (len := 3) (by decide +kernel) rfl
theorem x_41_31 : Xp 41 d 31 ls st t g Q = Xp 41 d 4 ls st t g Q := xr_goto (off := -27) (by decide +kernel) (by decide)
theorem x_41_34 : Xp 41 d 34 [v0, v1, (0, x), v3] st t g Q = Xp 41 d 35 [v0, v1, (0, x), v3] ((0, x) :: st) t g Q := Xp_go (i := .iload_n 2) (len := 1) (by decide +kernel) rfl
theorem x_41_35 : Xp 41 d 35 ls [(0, x)] t g Q = Q (some (0, x)) t g := xr_retI (by decide +kernel) (by decide +kernel)
-- 42: HookBoxes$Box.kindOf(I)I
theorem x_42_0 : Xp 42 d 0 [(2, x), v1, v2, v3] st t g Q = Xp 42 d 1 [(2, x), v1, v2, v3] ((2, x) :: st) t g Q := Xp_go (i := .aload_n 0) (len := 1) (by decide +kernel) rfl
theorem x_42_1 : Xp 42 d 1 [v0, (0, x), v2, v3] st t g Q = Xp 42 d 2 [v0, (0, x), v2, v3] ((0, x) :: st) t g Q := Xp_go (i := .iload_n 1) (len := 1) (by decide +kernel) rfl
theorem x_42_2 : Xp 42 (d + 1) 2 ls ((0, a1) :: (2, a0) :: st) t g Q = (hkJK a0 = 1 ∧ hkC8 st ∧ Xp 41 d 0 [(2, a0), (0, a1), hkU, hkU] [] t g (fun r t g => Xp 42 (d + 1) 5 ls (hkPush r st) t g Q)) := xr_invV (idx := 85) (y' := 41) (ci := 1) (tg := [2, 0]) (by decide +kernel) (by decide +kernel) (by decide +kernel) (by decide +kernel) rfl rfl rfl
theorem x_42_5 : Xp 42 d 5 [v0, v1, v2, v3] ((0, x) :: st) t g Q = (hkP1 v1 ∧ Xp 42 d 6 [v0, v1, (0, x), v3] st t g Q) := Xp_chk (i := .istore_n 2) (len := 1) (by decide +kernel) rfl
theorem x_42_6 : Xp 42 d 6 [(2, x), v1, v2, v3] st t g Q = Xp 42 d 7 [(2, x), v1, v2, v3] ((2, x) :: st) t g Q := Xp_go (i := .aload_n 0) (len := 1) (by decide +kernel) rfl
theorem x_42_7 : Xp 42 d 7 ls ((2, p) :: st) t g Q = (hkJK p = 1 ∧ jA p 4 ≤ t ∧ Xp 42 d 10 ls ((2, jR p 4) :: st) t g Q) := xr_getR (idx := 9) (ci := 1) (k := 4) (by decide +kernel) (by decide +kernel) (by decide +kernel)
theorem x_42_10 : Xp 42 d 10 [v0, (0, x), v2, v3] st t g Q = Xp 42 d 11 [v0, (0, x), v2, v3] ((0, x) :: st) t g Q := Xp_go (i := .iload_n 1) (len := 1) (by decide +kernel) rfl
theorem x_42_11 : Xp 42 d 11 ls st t g Q = Xp 42 d 12 ls ((0, 4) :: st) t g Q := xr_const (c := 4) (by decide +kernel) (by decide)
theorem x_42_12 : Xp 42 d 12 ls ((0, b) :: (0, a) :: st) t g Q = Xp 42 d 13 ls ((0, hkW (a * b)) :: st) t g Q := Xp_go (i := .imul) (len := 1) (by decide +kernel) rfl
theorem x_42_13 : Xp 42 d 13 ls ((0, a) :: (2, p) :: st) t g Q = ((hkJK p = 100 ∧ 0 ≤ a ∧ a < jL p) ∧ Xp 42 d 14 ls ((0, g p a) :: st) t g Q) := Xp_chk (i := .iaload) (len := 1) (by decide +kernel) rfl
theorem x_42_14 : Xp 42 d 14 [v0, v1, v2, v3] ((0, x) :: st) t g Q = (hkP1 v2 ∧ Xp 42 d 15 [v0, v1, v2, (0, x)] st t g Q) := Xp_chk (i := .istore_n 3) (len := 1) (by decide +kernel) rfl
theorem x_42_15 : Xp 42 d 15 [v0, v1, (0, x), v3] st t g Q = Xp 42 d 16 [v0, v1, (0, x), v3] ((0, x) :: st) t g Q := Xp_go (i := .iload_n 2) (len := 1) (by decide +kernel) rfl
theorem x_42_16 : Xp 42 d 16 ls st t g Q = Xp 42 d 17 ls ((0, 1) :: st) t g Q := xr_const (c := 1) (by decide +kernel) (by decide)
theorem x_42_17 : Xp 42 d 17 ls ((0, b) :: (0, a) :: st) t g Q = ((b < a → Xp 42 d 22 ls st t g Q) ∧ (¬ (b < a) → Xp 42 d 20 ls st t g Q)) := xr_if2 (cd := .gt) (off := 5) (by decide +kernel) (by decide)
theorem x_42_20 : Xp 42 d 20 [v0, v1, (0, x), v3] st t g Q = Xp 42 d 21 [v0, v1, (0, x), v3] ((0, x) :: st) t g Q := Xp_go (i := .iload_n 2) (len := 1) (by decide +kernel) rfl
theorem x_42_21 : Xp 42 d 21 ls [(0, x)] t g Q = Q (some (0, x)) t g := xr_retI (by decide +kernel) (by decide +kernel)
theorem x_42_22 : Xp 42 d 22 [v0, v1, v2, (0, x)] st t g Q = Xp 42 d 23 [v0, v1, v2, (0, x)] ((0, x) :: st) t g Q := Xp_go (i := .iload_n 3) (len := 1) (by decide +kernel) rfl
theorem x_42_23 : Xp 42 d 23 ls st t g Q = Xp 42 d 24 ls ((0, 1) :: st) t g Q := xr_const (c := 1) (by decide +kernel) (by decide)
theorem x_42_24 : Xp 42 d 24 ls ((0, b) :: (0, a) :: st) t g Q = ((¬ (a = b) → Xp 42 d 29 ls st t g Q) ∧ (¬ (¬ (a = b)) → Xp 42 d 27 ls st t g Q)) := xr_if2 (cd := .ne) (off := 5) (by decide +kernel) (by decide)
theorem x_42_27 : Xp 42 d 27 ls st t g Q = Xp 42 d 28 ls ((0, 2) :: st) t g Q := xr_const (c := 2) (by decide +kernel) (by decide)
theorem x_42_28 : Xp 42 d 28 ls [(0, x)] t g Q = Q (some (0, x)) t g := xr_retI (by decide +kernel) (by decide +kernel)
theorem x_42_29 : Xp 42 d 29 [(2, x), v1, v2, v3] st t g Q = Xp 42 d 30 [(2, x), v1, v2, v3] ((2, x) :: st) t g Q := Xp_go (i := .aload_n 0) (len := 1) (by decide +kernel) rfl
theorem x_42_30 : Xp 42 d 30 ls ((2, p) :: st) t g Q = (hkJK p = 1 ∧ jA p 4 ≤ t ∧ Xp 42 d 33 ls ((2, jR p 4) :: st) t g Q) := xr_getR (idx := 9) (ci := 1) (k := 4) (by decide +kernel) (by decide +kernel) (by decide +kernel)
theorem x_42_33 : Xp 42 d 33 [v0, (0, x), v2, v3] st t g Q = Xp 42 d 34 [v0, (0, x), v2, v3] ((0, x) :: st) t g Q := Xp_go (i := .iload_n 1) (len := 1) (by decide +kernel) rfl
theorem x_42_34 : Xp 42 d 34 ls st t g Q = Xp 42 d 35 ls ((0, 4) :: st) t g Q := xr_const (c := 4) (by decide +kernel) (by decide)
theorem x_42_35 : Xp 42 d 35 ls ((0, b) :: (0, a) :: st) t g Q = Xp 42 d 36 ls ((0, hkW (a * b)) :: st) t g Q := Xp_go (i := .imul) (len := 1) (by decide +kernel) rfl
theorem x_42_36 : Xp 42 d 36 [v0, v1, (0, x), v3] st t g Q = Xp 42 d 37 [v0, v1, (0, x), v3] ((0, x) :: st) t g Q := Xp_go (i := .iload_n 2) (len := 1) (by decide +kernel) rfl
theorem x_42_37 : Xp 42 d 37 ls ((0, b) :: (0, a) :: st) t g Q = Xp 42 d 38 ls ((0, hkW (a + b)) :: st) t g Q := Xp_go (i := .iadd) (len := 1) (by decide +kernel) rfl
theorem x_42_38 : Xp 42 d 38 ls st t g Q = Xp 42 d 39 ls ((0, 1) :: st) t g Q := xr_const (c := 1) (by decide +kernel) (by decide)
theorem x_42_39 : Xp 42 d 39 ls ((0, b) :: (0, a) :: st) t g Q = Xp 42 d 40 ls ((0, hkW (a - b)) :: st) t g Q := Xp_go (i := .isub) (len := 1) (by decide +kernel) rfl
theorem x_42_40 : Xp 42 d 40 ls ((0, a) :: (2, p) :: st) t g Q = ((hkJK p = 100 ∧ 0 ≤ a ∧ a < jL p) ∧ Xp 42 d 41 ls ((0, g p a) :: st) t g Q) := Xp_chk (i := .iaload) (len := 1) (by decide +kernel) rfl
theorem x_42_41 : Xp 42 d 41 [v0, v1, v2, (0, x)] st t g Q = Xp 42 d 42 [v0, v1, v2, (0, x)] ((0, x) :: st) t g Q := Xp_go (i := .iload_n 3) (len := 1) (by decide +kernel) rfl
theorem x_42_42 : Xp 42 d 42 ls ((0, b) :: (0, a) :: st) t g Q = ((¬ (a = b) → Xp 42 d 47 ls st t g Q) ∧ (¬ (¬ (a = b)) → Xp 42 d 45 ls st t g Q)) := xr_if2 (cd := .ne) (off := 5) (by decide +kernel) (by decide)
theorem x_42_45 : Xp 42 d 45 ls st t g Q = Xp 42 d 46 ls ((0, 3) :: st) t g Q := xr_const (c := 3) (by decide +kernel) (by decide)
theorem x_42_46 : Xp 42 d 46 ls [(0, x)] t g Q = Q (some (0, x)) t g := xr_retI (by decide +kernel) (by decide +kernel)
theorem x_42_47 : Xp 42 d 47 [(2, x), v1, v2, v3] st t g Q = Xp 42 d 48 [(2, x), v1, v2, v3] ((2, x) :: st) t g Q := Xp_go (i := .aload_n 0) (len := 1) (by decide +kernel) rfl
theorem x_42_48 : Xp 42 d 48 ls ((2, p) :: st) t g Q = (hkJK p = 1 ∧ jA p 4 ≤ t ∧ Xp 42 d 51 ls ((2, jR p 4) :: st) t g Q) := xr_getR (idx := 9) (ci := 1) (k := 4) (by decide +kernel) (by decide +kernel) (by decide +kernel)
theorem x_42_51 : Xp 42 d 51 [v0, (0, x), v2, v3] st t g Q = Xp 42 d 52 [v0, (0, x), v2, v3] ((0, x) :: st) t g Q := Xp_go (i := .iload_n 1) (len := 1) (by decide +kernel) rfl
theorem x_42_52 : Xp 42 d 52 ls st t g Q = Xp 42 d 53 ls ((0, 4) :: st) t g Q := xr_const (c := 4) (by decide +kernel) (by decide)
theorem x_42_53 : Xp 42 d 53 ls ((0, b) :: (0, a) :: st) t g Q = Xp 42 d 54 ls ((0, hkW (a * b)) :: st) t g Q := Xp_go (i := .imul) (len := 1) (by decide +kernel) rfl
theorem x_42_54 : Xp 42 d 54 ls st t g Q = Xp 42 d 55 ls ((0, 1) :: st) t g Q := xr_const (c := 1) (by decide +kernel) (by decide)
theorem x_42_55 : Xp 42 d 55 ls ((0, b) :: (0, a) :: st) t g Q = Xp 42 d 56 ls ((0, hkW (a + b)) :: st) t g Q := Xp_go (i := .iadd) (len := 1) (by decide +kernel) rfl
theorem x_42_56 : Xp 42 d 56 ls ((0, a) :: (2, p) :: st) t g Q = ((hkJK p = 100 ∧ 0 ≤ a ∧ a < jL p) ∧ Xp 42 d 57 ls ((0, g p a) :: st) t g Q) := Xp_chk (i := .iaload) (len := 1) (by decide +kernel) rfl
theorem x_42_57 : Xp 42 d 57 ls st t g Q = Xp 42 d 58 ls ((0, 1) :: st) t g Q := xr_const (c := 1) (by decide +kernel) (by decide)
theorem x_42_58 : Xp 42 d 58 ls ((0, b) :: (0, a) :: st) t g Q = ((¬ (a = b) → Xp 42 d 65 ls st t g Q) ∧ (¬ (¬ (a = b)) → Xp 42 d 61 ls st t g Q)) := xr_if2 (cd := .ne) (off := 7) (by decide +kernel) (by decide)
theorem x_42_61 : Xp 42 d 61 ls st t g Q = Xp 42 d 62 ls ((0, 4) :: st) t g Q := xr_const (c := 4) (by decide +kernel) (by decide)
theorem x_42_62 : Xp 42 d 62 ls st t g Q = Xp 42 d 66 ls st t g Q := xr_goto (off := 4) (by decide +kernel) (by decide)
theorem x_42_65 : Xp 42 d 65 ls st t g Q = Xp 42 d 66 ls ((0, 5) :: st) t g Q := xr_const (c := 5) (by decide +kernel) (by decide)
theorem x_42_66 : Xp 42 d 66 ls [(0, x)] t g Q = Q (some (0, x)) t g := xr_retI (by decide +kernel) (by decide +kernel)
-- 43: HookBoxes$Box.dualOf(I)I
theorem x_43_0 : Xp 43 d 0 [(2, x), v1] st t g Q = Xp 43 d 1 [(2, x), v1] ((2, x) :: st) t g Q := Xp_go (i := .aload_n 0) (len := 1) (by decide +kernel) rfl
theorem x_43_1 : Xp 43 d 1 [(2, x), v1] st t g Q = Xp 43 d 2 [(2, x), v1] ((2, x) :: st) t g Q := Xp_go (i := .aload_n 0) (len := 1) (by decide +kernel) rfl
theorem x_43_2 : Xp 43 d 2 [(2, x), v1] st t g Q = Xp 43 d 3 [(2, x), v1] ((2, x) :: st) t g Q := Xp_go (i := .aload_n 0) (len := 1) (by decide +kernel) rfl
theorem x_43_3 : Xp 43 d 3 ls ((2, p) :: st) t g Q = (hkJK p = 1 ∧ jA p 6 ≤ t ∧ Xp 43 d 6 ls ((2, jR p 6) :: st) t g Q) := xr_getR (idx := 18) (ci := 1) (k := 6) (by decide +kernel) (by decide +kernel) (by decide +kernel)
theorem x_43_6 : Xp 43 d 6 [v0, (0, x)] st t g Q = Xp 43 d 7 [v0, (0, x)] ((0, x) :: st) t g Q := Xp_go (i := .iload_n 1) (len := 1) (by decide +kernel) rfl
theorem x_43_7 : Xp 43 d 7 ls ((0, a) :: (2, p) :: st) t g Q = ((hkJK p = 100 ∧ 0 ≤ a ∧ a < jL p) ∧ Xp 43 d 8 ls ((0, g p a) :: st) t g Q) := Xp_chk (i := .iaload) (len := 1) (by decide +kernel) rfl
theorem x_43_8 : Xp 43 (d + 1) 8 ls ((0, a1) :: (2, a0) :: st) t g Q = (hkJK a0 = 1 ∧ hkC8 st ∧ Xp 44 d 0 [(2, a0), (0, a1), hkU, hkU] [] t g (fun r t g => Xp 43 (d + 1) 11 ls (hkPush r st) t g Q)) := xr_invV (idx := 88) (y' := 44) (ci := 1) (tg := [2, 0]) (by decide +kernel) (by decide +kernel) (by decide +kernel) (by decide +kernel) rfl rfl rfl
theorem x_43_11 : Xp 43 (d + 1) 11 ls ((0, a1) :: (2, a0) :: st) t g Q = (hkJK a0 = 1 ∧ hkC8 st ∧ Xp 38 d 0 [(2, a0), (0, a1)] [] t g (fun r t g => Xp 43 (d + 1) 14 ls (hkPush r st) t g Q)) := xr_invV (idx := 81) (y' := 38) (ci := 1) (tg := [2, 0]) (by decide +kernel) (by decide +kernel) (by decide +kernel) (by decide +kernel) rfl rfl rfl
theorem x_43_14 : Xp 43 d 14 ls [(0, x)] t g Q = Q (some (0, x)) t g := xr_retI (by decide +kernel) (by decide +kernel)
-- 44: HookBoxes$Box.mirrored(I)I
theorem x_44_0 : Xp 44 d 0 ls st t g Q = Xp 44 d 1 ls ((0, 0) :: st) t g Q := xr_const (c := 0) (by decide +kernel) (by decide)
theorem x_44_1 : Xp 44 d 1 [v0, v1, v2, v3] ((0, x) :: st) t g Q = (hkP1 v1 ∧ Xp 44 d 2 [v0, v1, (0, x), v3] st t g Q) := Xp_chk (i := .istore_n 2) (len := 1) (by decide +kernel) rfl
theorem x_44_2 : Xp 44 d 2 ls st t g Q = Xp 44 d 3 ls ((0, 0) :: st) t g Q := xr_const (c := 0) (by decide +kernel) (by decide)
theorem x_44_3 : Xp 44 d 3 [v0, v1, v2, v3] ((0, x) :: st) t g Q = (hkP1 v2 ∧ Xp 44 d 4 [v0, v1, v2, (0, x)] st t g Q) := Xp_chk (i := .istore_n 3) (len := 1) (by decide +kernel) rfl
theorem x_44_4 : Xp 44 d 4 [v0, v1, v2, (0, x)] st t g Q = Xp 44 d 5 [v0, v1, v2, (0, x)] ((0, x) :: st) t g Q := Xp_go (i := .iload_n 3) (len := 1) (by decide +kernel) rfl
theorem x_44_5 : Xp 44 d 5 [(2, x), v1, v2, v3] st t g Q = Xp 44 d 6 [(2, x), v1, v2, v3] ((2, x) :: st) t g Q := Xp_go (i := .aload_n 0) (len := 1) (by decide +kernel) rfl
theorem x_44_6 : Xp 44 d 6 ls ((2, p) :: st) t g Q = (hkJK p = 1 ∧ Xp 44 d 9 ls ((0, g p 1) :: st) t g Q) := xr_getI (idx := 44) (ci := 1) (k := 1) (by decide +kernel) (by decide +kernel) (by decide +kernel)
theorem x_44_9 : Xp 44 d 9 ls ((0, b) :: (0, a) :: st) t g Q = ((b ≤ a → Xp 44 d 35 ls st t g Q) ∧ (¬ (b ≤ a) → Xp 44 d 12 ls st t g Q)) := xr_if2 (cd := .ge) (off := 26) (by decide +kernel) (by decide)
theorem x_44_12 : Xp 44 d 12 [v0, v1, (0, x), v3] st t g Q = Xp 44 d 13 [v0, v1, (0, x), v3] ((0, x) :: st) t g Q := Xp_go (i := .iload_n 2) (len := 1) (by decide +kernel) rfl
theorem x_44_13 : Xp 44 d 13 [v0, (0, x), v2, v3] st t g Q = Xp 44 d 14 [v0, (0, x), v2, v3] ((0, x) :: st) t g Q := Xp_go (i := .iload_n 1) (len := 1) (by decide +kernel) rfl
theorem x_44_14 : Xp 44 d 14 [(2, x), v1, v2, v3] st t g Q = Xp 44 d 15 [(2, x), v1, v2, v3] ((2, x) :: st) t g Q := Xp_go (i := .aload_n 0) (len := 1) (by decide +kernel) rfl
theorem x_44_15 : Xp 44 d 15 ls ((2, p) :: st) t g Q = (hkJK p = 1 ∧ Xp 44 d 18 ls ((0, g p 1) :: st) t g Q) := xr_getI (idx := 44) (ci := 1) (k := 1) (by decide +kernel) (by decide +kernel) (by decide +kernel)
theorem x_44_18 : Xp 44 d 18 ls st t g Q = Xp 44 d 19 ls ((0, 1) :: st) t g Q := xr_const (c := 1) (by decide +kernel) (by decide)
theorem x_44_19 : Xp 44 d 19 ls ((0, b) :: (0, a) :: st) t g Q = Xp 44 d 20 ls ((0, hkW (a - b)) :: st) t g Q := Xp_go (i := .isub) (len := 1) (by decide +kernel) rfl
theorem x_44_20 : Xp 44 d 20 [v0, v1, v2, (0, x)] st t g Q = Xp 44 d 21 [v0, v1, v2, (0, x)] ((0, x) :: st) t g Q := Xp_go (i := .iload_n 3) (len := 1) (by decide +kernel) rfl
theorem x_44_21 : Xp 44 d 21 ls ((0, b) :: (0, a) :: st) t g Q = Xp 44 d 22 ls ((0, hkW (a - b)) :: st) t g Q := Xp_go (i := .isub) (len := 1) (by decide +kernel) rfl
theorem x_44_22 : Xp 44 d 22 ls ((0, b) :: (0, a) :: st) t g Q = Xp 44 d 23 ls ((0, hkShr a b) :: st) t g Q := Xp_go (i := .ishr) (len := 1) (by decide +kernel) rfl
theorem x_44_23 : Xp 44 d 23 ls st t g Q = Xp 44 d 24 ls ((0, 1) :: st) t g Q := xr_const (c := 1) (by decide +kernel) (by decide)
theorem x_44_24 : Xp 44 d 24 ls ((0, b) :: (0, a) :: st) t g Q = Xp 44 d 25 ls ((0, hkAnd a b) :: st) t g Q := Xp_go (i := .iand) (len := 1) (by decide +kernel) rfl
theorem x_44_25 : Xp 44 d 25 [v0, v1, v2, (0, x)] st t g Q = Xp 44 d 26 [v0, v1, v2, (0, x)] ((0, x) :: st) t g Q := Xp_go (i := .iload_n 3) (len := 1) (by decide +kernel) rfl
theorem x_44_26 : Xp 44 d 26 ls ((0, b) :: (0, a) :: st) t g Q = Xp 44 d 27 ls ((0, hkShl a b) :: st) t g Q := Xp_go (i := .ishl) (len := 1) (by decide +kernel) rfl
theorem x_44_27 : Xp 44 d 27 ls ((0, b) :: (0, a) :: st) t g Q = Xp 44 d 28 ls ((0, hkOr a b) :: st) t g Q := Xp_go (i := .ior) (len := 1) (by decide +kernel) rfl
theorem x_44_28 : Xp 44 d 28 [v0, v1, v2, v3] ((0, x) :: st) t g Q = (hkP1 v1 ∧ Xp 44 d 29 [v0, v1, (0, x), v3] st t g Q) := Xp_chk (i := .istore_n 2) (len := 1) (by decide +kernel) rfl
theorem x_44_29 : Xp 44 d 29 [v0, v1, v2, (0, x)] st t g Q = (hkP1 v2 ∧ Xp 44 d 32 [v0, v1, v2, (0, hkW (x + 1))] st t g Q) := Xp_chk (i := .iinc 3 (1)) (len := 3) (by decide +kernel) rfl
theorem x_44_32 : Xp 44 d 32 ls st t g Q = Xp 44 d 4 ls st t g Q := xr_goto (off := -28) (by decide +kernel) (by decide)
theorem x_44_35 : Xp 44 d 35 [v0, v1, (0, x), v3] st t g Q = Xp 44 d 36 [v0, v1, (0, x), v3] ((0, x) :: st) t g Q := Xp_go (i := .iload_n 2) (len := 1) (by decide +kernel) rfl
theorem x_44_36 : Xp 44 d 36 ls [(0, x)] t g Q = Q (some (0, x)) t g := xr_retI (by decide +kernel) (by decide +kernel)
-- 45: HookBoxes$Box.rolledOf(I)I
theorem x_45_0 : Xp 45 d 0 [(2, x), v1, v2] st t g Q = Xp 45 d 1 [(2, x), v1, v2] ((2, x) :: st) t g Q := Xp_go (i := .aload_n 0) (len := 1) (by decide +kernel) rfl
theorem x_45_1 : Xp 45 d 1 ls ((2, p) :: st) t g Q = (hkJK p = 1 ∧ jA p 6 ≤ t ∧ Xp 45 d 4 ls ((2, jR p 6) :: st) t g Q) := xr_getR (idx := 18) (ci := 1) (k := 6) (by decide +kernel) (by decide +kernel) (by decide +kernel)
theorem x_45_4 : Xp 45 d 4 [v0, (0, x), v2] st t g Q = Xp 45 d 5 [v0, (0, x), v2] ((0, x) :: st) t g Q := Xp_go (i := .iload_n 1) (len := 1) (by decide +kernel) rfl
theorem x_45_5 : Xp 45 d 5 ls ((0, a) :: (2, p) :: st) t g Q = ((hkJK p = 100 ∧ 0 ≤ a ∧ a < jL p) ∧ Xp 45 d 6 ls ((0, g p a) :: st) t g Q) := Xp_chk (i := .iaload) (len := 1) (by decide +kernel) rfl
theorem x_45_6 : Xp 45 d 6 [v0, v1, v2] ((0, x) :: st) t g Q = (hkP1 v1 ∧ Xp 45 d 7 [v0, v1, (0, x)] st t g Q) := Xp_chk (i := .istore_n 2) (len := 1) (by decide +kernel) rfl
theorem x_45_7 : Xp 45 d 7 [(2, x), v1, v2] st t g Q = Xp 45 d 8 [(2, x), v1, v2] ((2, x) :: st) t g Q := Xp_go (i := .aload_n 0) (len := 1) (by decide +kernel) rfl
theorem x_45_8 : Xp 45 d 8 [v0, v1, (0, x)] st t g Q = Xp 45 d 9 [v0, v1, (0, x)] ((0, x) :: st) t g Q := Xp_go (i := .iload_n 2) (len := 1) (by decide +kernel) rfl
theorem x_45_9 : Xp 45 d 9 ls st t g Q = Xp 45 d 10 ls ((0, 1) :: st) t g Q := xr_const (c := 1) (by decide +kernel) (by decide)
theorem x_45_10 : Xp 45 d 10 ls ((0, b) :: (0, a) :: st) t g Q = Xp 45 d 11 ls ((0, hkShl a b) :: st) t g Q := Xp_go (i := .ishl) (len := 1) (by decide +kernel) rfl
theorem x_45_11 : Xp 45 d 11 [(2, x), v1, v2] st t g Q = Xp 45 d 12 [(2, x), v1, v2] ((2, x) :: st) t g Q := Xp_go (i := .aload_n 0) (len := 1) (by decide +kernel) rfl
theorem x_45_12 : Xp 45 (d + 1) 12 ls ((2, a0) :: st) t g Q = (hkJK a0 = 1 ∧ hkC8 st ∧ Xp 46 d 0 [(2, a0)] [] t g (fun r t g => Xp 45 (d + 1) 15 ls (hkPush r st) t g Q)) := xr_invV (idx := 91) (y' := 46) (ci := 1) (tg := [2]) (by decide +kernel) (by decide +kernel) (by decide +kernel) (by decide +kernel) rfl rfl rfl
theorem x_45_15 : Xp 45 d 15 ls ((0, b) :: (0, a) :: st) t g Q = Xp 45 d 16 ls ((0, hkAnd a b) :: st) t g Q := Xp_go (i := .iand) (len := 1) (by decide +kernel) rfl
theorem x_45_16 : Xp 45 d 16 [v0, v1, (0, x)] st t g Q = Xp 45 d 17 [v0, v1, (0, x)] ((0, x) :: st) t g Q := Xp_go (i := .iload_n 2) (len := 1) (by decide +kernel) rfl
theorem x_45_17 : Xp 45 d 17 [(2, x), v1, v2] st t g Q = Xp 45 d 18 [(2, x), v1, v2] ((2, x) :: st) t g Q := Xp_go (i := .aload_n 0) (len := 1) (by decide +kernel) rfl
theorem x_45_18 : Xp 45 d 18 ls ((2, p) :: st) t g Q = (hkJK p = 1 ∧ Xp 45 d 21 ls ((0, g p 1) :: st) t g Q) := xr_getI (idx := 44) (ci := 1) (k := 1) (by decide +kernel) (by decide +kernel) (by decide +kernel)
theorem x_45_21 : Xp 45 d 21 ls st t g Q = Xp 45 d 22 ls ((0, 1) :: st) t g Q := xr_const (c := 1) (by decide +kernel) (by decide)
theorem x_45_22 : Xp 45 d 22 ls ((0, b) :: (0, a) :: st) t g Q = Xp 45 d 23 ls ((0, hkW (a - b)) :: st) t g Q := Xp_go (i := .isub) (len := 1) (by decide +kernel) rfl
theorem x_45_23 : Xp 45 d 23 ls ((0, b) :: (0, a) :: st) t g Q = Xp 45 d 24 ls ((0, hkShr a b) :: st) t g Q := Xp_go (i := .ishr) (len := 1) (by decide +kernel) rfl
theorem x_45_24 : Xp 45 d 24 ls ((0, b) :: (0, a) :: st) t g Q = Xp 45 d 25 ls ((0, hkOr a b) :: st) t g Q := Xp_go (i := .ior) (len := 1) (by decide +kernel) rfl
theorem x_45_25 : Xp 45 (d + 1) 25 ls ((0, a1) :: (2, a0) :: st) t g Q = (hkJK a0 = 1 ∧ hkC8 st ∧ Xp 38 d 0 [(2, a0), (0, a1)] [] t g (fun r t g => Xp 45 (d + 1) 28 ls (hkPush r st) t g Q)) := xr_invV (idx := 81) (y' := 38) (ci := 1) (tg := [2, 0]) (by decide +kernel) (by decide +kernel) (by decide +kernel) (by decide +kernel) rfl rfl rfl
theorem x_45_28 : Xp 45 d 28 ls [(0, x)] t g Q = Q (some (0, x)) t g := xr_retI (by decide +kernel) (by decide +kernel)
-- 46: HookBoxes$Box.fullWord()I
theorem x_46_0 : Xp 46 d 0 ls st t g Q = Xp 46 d 1 ls ((0, 1) :: st) t g Q := xr_const (c := 1) (by decide +kernel) (by decide)
theorem x_46_1 : Xp 46 d 1 [(2, x)] st t g Q = Xp 46 d 2 [(2, x)] ((2, x) :: st) t g Q := Xp_go (i := .aload_n 0) (len := 1) (by decide +kernel) rfl
theorem x_46_2 : Xp 46 d 2 ls ((2, p) :: st) t g Q = (hkJK p = 1 ∧ Xp 46 d 5 ls ((0, g p 1) :: st) t g Q) := xr_getI (idx := 44) (ci := 1) (k := 1) (by decide +kernel) (by decide +kernel) (by decide +kernel)
theorem x_46_5 : Xp 46 d 5 ls ((0, b) :: (0, a) :: st) t g Q = Xp 46 d 6 ls ((0, hkShl a b) :: st) t g Q := Xp_go (i := .ishl) (len := 1) (by decide +kernel) rfl
theorem x_46_6 : Xp 46 d 6 ls st t g Q = Xp 46 d 7 ls ((0, 1) :: st) t g Q := xr_const (c := 1) (by decide +kernel) (by decide)
theorem x_46_7 : Xp 46 d 7 ls ((0, b) :: (0, a) :: st) t g Q = Xp 46 d 8 ls ((0, hkW (a - b)) :: st) t g Q := Xp_go (i := .isub) (len := 1) (by decide +kernel) rfl
theorem x_46_8 : Xp 46 d 8 ls [(0, x)] t g Q = Q (some (0, x)) t g := xr_retI (by decide +kernel) (by decide +kernel)
-- 47: HookBoxes$Box.turnedWordOf(I)I
theorem x_47_0 : Xp 47 d 0 [(2, x), v1] st t g Q = Xp 47 d 1 [(2, x), v1] ((2, x) :: st) t g Q := Xp_go (i := .aload_n 0) (len := 1) (by decide +kernel) rfl
theorem x_47_1 : Xp 47 (d + 1) 1 ls ((2, a0) :: st) t g Q = (hkJK a0 = 1 ∧ hkC8 st ∧ Xp 46 d 0 [(2, a0)] [] t g (fun r t g => Xp 47 (d + 1) 4 ls (hkPush r st) t g Q)) := xr_invV (idx := 91) (y' := 46) (ci := 1) (tg := [2]) (by decide +kernel) (by decide +kernel) (by decide +kernel) (by decide +kernel) rfl rfl rfl
theorem x_47_4 : Xp 47 d 4 [(2, x), v1] st t g Q = Xp 47 d 5 [(2, x), v1] ((2, x) :: st) t g Q := Xp_go (i := .aload_n 0) (len := 1) (by decide +kernel) rfl
theorem x_47_5 : Xp 47 d 5 [(2, x), v1] st t g Q = Xp 47 d 6 [(2, x), v1] ((2, x) :: st) t g Q := Xp_go (i := .aload_n 0) (len := 1) (by decide +kernel) rfl
theorem x_47_6 : Xp 47 d 6 ls ((2, p) :: st) t g Q = (hkJK p = 1 ∧ jA p 6 ≤ t ∧ Xp 47 d 9 ls ((2, jR p 6) :: st) t g Q) := xr_getR (idx := 18) (ci := 1) (k := 6) (by decide +kernel) (by decide +kernel) (by decide +kernel)
theorem x_47_9 : Xp 47 d 9 [v0, (0, x)] st t g Q = Xp 47 d 10 [v0, (0, x)] ((0, x) :: st) t g Q := Xp_go (i := .iload_n 1) (len := 1) (by decide +kernel) rfl
theorem x_47_10 : Xp 47 d 10 ls ((0, a) :: (2, p) :: st) t g Q = ((hkJK p = 100 ∧ 0 ≤ a ∧ a < jL p) ∧ Xp 47 d 11 ls ((0, g p a) :: st) t g Q) := Xp_chk (i := .iaload) (len := 1) (by decide +kernel) rfl
theorem x_47_11 : Xp 47 (d + 1) 11 ls ((0, a1) :: (2, a0) :: st) t g Q = (hkJK a0 = 1 ∧ hkC8 st ∧ Xp 44 d 0 [(2, a0), (0, a1), hkU, hkU] [] t g (fun r t g => Xp 47 (d + 1) 14 ls (hkPush r st) t g Q)) := xr_invV (idx := 88) (y' := 44) (ci := 1) (tg := [2, 0]) (by decide +kernel) (by decide +kernel) (by decide +kernel) (by decide +kernel) rfl rfl rfl
theorem x_47_14 : Xp 47 d 14 ls st t g Q = Xp 47 d 15 ls ((0, -1) :: st) t g Q := xr_const (c := -1) (by decide +kernel) (by decide)
theorem x_47_15 : Xp 47 d 15 ls ((0, b) :: (0, a) :: st) t g Q = Xp 47 d 16 ls ((0, hkXor a b) :: st) t g Q := Xp_go (i := .ixor) (len := 1) (by decide +kernel) rfl
theorem x_47_16 : Xp 47 d 16 ls ((0, b) :: (0, a) :: st) t g Q = Xp 47 d 17 ls ((0, hkAnd a b) :: st) t g Q := Xp_go (i := .iand) (len := 1) (by decide +kernel) rfl
theorem x_47_17 : Xp 47 d 17 ls [(0, x)] t g Q = Q (some (0, x)) t g := xr_retI (by decide +kernel) (by decide +kernel)
-- 48: HookBoxes$Rounder.<init>(LHookBoxes$Box;)V
theorem x_48_0 : Xp 48 d 0 [(2, x), v1] st t g Q = Xp 48 d 1 [(2, x), v1] ((2, x) :: st) t g Q := Xp_go (i := .aload_n 0) (len := 1) (by decide +kernel) rfl
theorem x_48_1 : Xp 48 d 1 ls ((2, p) :: st) t g Q = (hkC8 st ∧ Xp 48 d 4 ls st t g Q) := xr_obj (idx := 3) (f := 183) (by decide +kernel) (by decide +kernel) (by decide +kernel) (by decide +kernel)
theorem x_48_4 : Xp 48 d 4 [(2, x), v1] st t g Q = Xp 48 d 5 [(2, x), v1] ((2, x) :: st) t g Q := Xp_go (i := .aload_n 0) (len := 1) (by decide +kernel) rfl
theorem x_48_5 : Xp 48 d 5 ls st t g Q = Xp 48 d 6 ls ((0, 4) :: st) t g Q := xr_const (c := 4) (by decide +kernel) (by decide)
theorem x_48_6 : Xp 48 d 6 ls ((0, x) :: st) t g Q = (∃ P z w, hkEV[t]? = some (0, P, z, w) ∧ hkKd P = 100 ∧ x = jL (P : Int) ∧ Xp 48 d 8 ls ((2, (P : Int)) :: st) (t + 1) g Q) := xr_newa (ty := .int) (ci := 100) (by decide +kernel) (by decide) (by decide)
theorem x_48_8 : Xp 48 d 8 ls ((2, z) :: (2, p) :: st) t g Q = (hkJK p = 2 ∧ hkEV[t]? = some (1, p.toNat, 4, z.toNat) ∧ Xp 48 d 11 ls st (t + 1) g Q) := xr_putR (idx := 9) (ci := 2) (k := 4) (by decide +kernel) (by decide +kernel) (by decide +kernel) (by decide +kernel) (by decide +kernel)
theorem x_48_11 : Xp 48 d 11 [(2, x), v1] st t g Q = Xp 48 d 12 [(2, x), v1] ((2, x) :: st) t g Q := Xp_go (i := .aload_n 0) (len := 1) (by decide +kernel) rfl
theorem x_48_12 : Xp 48 d 12 [v0, (2, x)] st t g Q = Xp 48 d 13 [v0, (2, x)] ((2, x) :: st) t g Q := Xp_go (i := .aload_n 1) (len := 1) (by decide +kernel) rfl
theorem x_48_13 : Xp 48 d 13 ls ((2, z) :: (2, p) :: st) t g Q = (hkJK p = 2 ∧ hkEV[t]? = some (1, p.toNat, 3, z.toNat) ∧ Xp 48 d 16 ls st (t + 1) g Q) := xr_putR (idx := 15) (ci := 2) (k := 3) (by decide +kernel) (by decide +kernel) (by decide +kernel) (by decide +kernel) (by decide +kernel)
theorem x_48_16 : Xp 48 d 16 ls [] t g Q = Q none t g := xr_retV (by decide +kernel) (by decide +kernel)
-- 49: HookBoxes$Rounder.takeRound([I)V
theorem x_49_0 : Xp 49 d 0 [(2, x), v1, v2, v3, v4, v5, v6] st t g Q = Xp 49 d 1 [(2, x), v1, v2, v3, v4, v5, v6] ((2, x) :: st) t g Q := Xp_go (i := .aload_n 0) (len := 1) (by decide +kernel) rfl
theorem x_49_1 : Xp 49 d 1 ls st t g Q = Xp 49 d 2 ls ((0, 1) :: st) t g Q := xr_const (c := 1) (by decide +kernel) (by decide)
theorem x_49_2 : Xp 49 d 2 ls ((0, x) :: (2, p) :: st) t g Q = (hkJK p = 2 ∧ Xp 49 d 5 ls st t (hkSet g p 0 x) Q) := xr_putI (idx := 19) (ci := 2) (k := 0) (by decide +kernel) (by decide +kernel) (by decide +kernel)
theorem x_49_5 : Xp 49 d 5 [(2, x), v1, v2, v3, v4, v5, v6] st t g Q = Xp 49 d 6 [(2, x), v1, v2, v3, v4, v5, v6] ((2, x) :: st) t g Q := Xp_go (i := .aload_n 0) (len := 1) (by decide +kernel) rfl
theorem x_49_6 : Xp 49 d 6 ls st t g Q = Xp 49 d 7 ls ((0, 0) :: st) t g Q := xr_const (c := 0) (by decide +kernel) (by decide)
theorem x_49_7 : Xp 49 d 7 ls ((0, x) :: (2, p) :: st) t g Q = (hkJK p = 2 ∧ Xp 49 d 10 ls st t (hkSet g p 1 x) Q) := xr_putI (idx := 23) (ci := 2) (k := 1) (by decide +kernel) (by decide +kernel) (by decide +kernel)
theorem x_49_10 : Xp 49 d 10 ls st t g Q = Xp 49 d 11 ls ((0, 0) :: st) t g Q := xr_const (c := 0) (by decide +kernel) (by decide)
theorem x_49_11 : Xp 49 d 11 [v0, v1, v2, v3, v4, v5, v6] ((0, x) :: st) t g Q = (hkP1 v1 ∧ Xp 49 d 12 [v0, v1, (0, x), v3, v4, v5, v6] st t g Q) := Xp_chk (i := .istore_n 2) (len := 1) (by decide +kernel) rfl
theorem x_49_12 : Xp 49 d 12 ls st t g Q = Xp 49 d 13 ls ((0, 0) :: st) t g Q := xr_const (c := 0) (by decide +kernel) (by decide)
theorem x_49_13 : Xp 49 d 13 [v0, v1, v2, v3, v4, v5, v6] ((0, x) :: st) t g Q = (hkP1 v2 ∧ Xp 49 d 14 [v0, v1, v2, (0, x), v4, v5, v6] st t g Q) := Xp_chk (i := .istore_n 3) (len := 1) (by decide +kernel) rfl
theorem x_49_14 : Xp 49 d 14 [v0, v1, v2, (0, x), v4, v5, v6] st t g Q = Xp 49 d 15 [v0, v1, v2, (0, x), v4, v5, v6] ((0, x) :: st) t g Q := Xp_go (i := .iload_n 3) (len := 1) (by decide +kernel) rfl
theorem x_49_15 : Xp 49 d 15 [(2, x), v1, v2, v3, v4, v5, v6] st t g Q = Xp 49 d 16 [(2, x), v1, v2, v3, v4, v5, v6] ((2, x) :: st) t g Q := Xp_go (i := .aload_n 0) (len := 1) (by decide +kernel) rfl
theorem x_49_16 : Xp 49 d 16 ls ((2, p) :: st) t g Q = (hkJK p = 2 ∧ jA p 3 ≤ t ∧ Xp 49 d 19 ls ((2, jR p 3) :: st) t g Q) := xr_getR (idx := 15) (ci := 2) (k := 3) (by decide +kernel) (by decide +kernel) (by decide +kernel)
theorem x_49_19 : Xp 49 d 19 ls ((2, p) :: st) t g Q = (hkJK p = 1 ∧ Xp 49 d 22 ls ((0, g p 0) :: st) t g Q) := xr_getI (idx := 26) (ci := 1) (k := 0) (by decide +kernel) (by decide +kernel) (by decide +kernel)
theorem x_49_22 : Xp 49 d 22 ls ((0, b) :: (0, a) :: st) t g Q = ((b ≤ a → Xp 49 d 162 ls st t g Q) ∧ (¬ (b ≤ a) → Xp 49 d 25 ls st t g Q)) := xr_if2 (cd := .ge) (off := 140) (by decide +kernel) (by decide)
theorem x_49_25 : Xp 49 d 25 [(2, x), v1, v2, v3, v4, v5, v6] st t g Q = Xp 49 d 26 [(2, x), v1, v2, v3, v4, v5, v6] ((2, x) :: st) t g Q := Xp_go (i := .aload_n 0) (len := 1) (by decide +kernel) rfl
theorem x_49_26 : Xp 49 d 26 ls ((2, p) :: st) t g Q = (hkJK p = 2 ∧ jA p 3 ≤ t ∧ Xp 49 d 29 ls ((2, jR p 3) :: st) t g Q) := xr_getR (idx := 15) (ci := 2) (k := 3) (by decide +kernel) (by decide +kernel) (by decide +kernel)
theorem x_49_29 : Xp 49 d 29 [v0, (2, x), v2, v3, v4, v5, v6] st t g Q = Xp 49 d 30 [v0, (2, x), v2, v3, v4, v5, v6] ((2, x) :: st) t g Q := Xp_go (i := .aload_n 1) (len := 1) (by decide +kernel) rfl
theorem x_49_30 : Xp 49 d 30 [v0, v1, v2, (0, x), v4, v5, v6] st t g Q = Xp 49 d 31 [v0, v1, v2, (0, x), v4, v5, v6] ((0, x) :: st) t g Q := Xp_go (i := .iload_n 3) (len := 1) (by decide +kernel) rfl
theorem x_49_31 : Xp 49 d 31 ls ((0, a) :: (2, p) :: st) t g Q = ((hkJK p = 100 ∧ 0 ≤ a ∧ a < jL p) ∧ Xp 49 d 32 ls ((0, g p a) :: st) t g Q) := Xp_chk (i := .iaload) (len := 1) (by decide +kernel) rfl
theorem x_49_32 : Xp 49 d 32 [v0, v1, v2, (0, x), v4, v5, v6] st t g Q = Xp 49 d 33 [v0, v1, v2, (0, x), v4, v5, v6] ((0, x) :: st) t g Q := Xp_go (i := .iload_n 3) (len := 1) (by decide +kernel) rfl
theorem x_49_33 : Xp 49 (d + 1) 33 ls ((0, a2) :: (0, a1) :: (2, a0) :: st) t g Q = (hkJK a0 = 1 ∧ hkC8 st ∧ Xp 37 d 0 [(2, a0), (0, a1), (0, a2)] [] t g (fun r t g => Xp 49 (d + 1) 36 ls (hkPush r st) t g Q)) := xr_invV (idx := 31) (y' := 37) (ci := 1) (tg := [2, 0, 0]) (by decide +kernel) (by decide +kernel) (by decide +kernel) (by decide +kernel) rfl rfl rfl
theorem x_49_36 : Xp 49 d 36 [v0, v1, v2, v3, v4, v5, v6] ((0, x) :: st) t g Q = (hkP1 v3 ∧ Xp 49 d 38 [v0, v1, v2, v3, (0, x), v5, v6] st t g Q) := Xp_chk (i := .istore 4) (len := 2) (by decide +kernel) rfl
theorem x_49_38 : Xp 49 d 38 [v0, v1, v2, v3, (0, x), v5, v6] st t g Q = Xp 49 d 40 [v0, v1, v2, v3, (0, x), v5, v6] ((0, x) :: st) t g Q := Xp_go (i := .iload 4) (len := 2) (by decide +kernel) rfl
theorem x_49_40 : Xp 49 d 40 [(2, x), v1, v2, v3, v4, v5, v6] st t g Q = Xp 49 d 41 [(2, x), v1, v2, v3, v4, v5, v6] ((2, x) :: st) t g Q := Xp_go (i := .aload_n 0) (len := 1) (by decide +kernel) rfl
theorem x_49_41 : Xp 49 d 41 ls ((2, p) :: st) t g Q = (hkJK p = 2 ∧ jA p 3 ≤ t ∧ Xp 49 d 44 ls ((2, jR p 3) :: st) t g Q) := xr_getR (idx := 15) (ci := 2) (k := 3) (by decide +kernel) (by decide +kernel) (by decide +kernel)
theorem x_49_44 : Xp 49 d 44 ls ((2, p) :: st) t g Q = (hkJK p = 1 ∧ Xp 49 d 47 ls ((0, g p 1) :: st) t g Q) := xr_getI (idx := 35) (ci := 1) (k := 1) (by decide +kernel) (by decide +kernel) (by decide +kernel)
theorem x_49_47 : Xp 49 d 47 ls ((0, b) :: (0, a) :: st) t g Q = (b ≠ 0 ∧ Xp 49 d 48 ls ((0, hkW (a.tdiv b)) :: st) t g Q) := Xp_chk (i := .idiv) (len := 1) (by decide +kernel) rfl
theorem x_49_48 : Xp 49 d 48 [v0, v1, v2, v3, v4, v5, v6] ((0, x) :: st) t g Q = (hkP1 v4 ∧ Xp 49 d 50 [v0, v1, v2, v3, v4, (0, x), v6] st t g Q) := Xp_chk (i := .istore 5) (len := 2) (by decide +kernel) rfl
theorem x_49_50 : Xp 49 d 50 [(2, x), v1, v2, v3, v4, v5, v6] st t g Q = Xp 49 d 51 [(2, x), v1, v2, v3, v4, v5, v6] ((2, x) :: st) t g Q := Xp_go (i := .aload_n 0) (len := 1) (by decide +kernel) rfl
theorem x_49_51 : Xp 49 d 51 ls (v :: st) t g Q = (hkP1 v ∧ Xp 49 d 52 ls (v :: v :: st) t g Q) := Xp_chk (i := .dup) (len := 1) (by decide +kernel) rfl
theorem x_49_52 : Xp 49 d 52 ls ((2, p) :: st) t g Q = (hkJK p = 2 ∧ Xp 49 d 55 ls ((0, g p 1) :: st) t g Q) := xr_getI (idx := 23) (ci := 2) (k := 1) (by decide +kernel) (by decide +kernel) (by decide +kernel)
theorem x_49_55 : Xp 49 d 55 [v0, v1, v2, v3, v4, (0, x), v6] st t g Q = Xp 49 d 57 [v0, v1, v2, v3, v4, (0, x), v6] ((0, x) :: st) t g Q := Xp_go (i := .iload 5) (len := 2) (by decide +kernel) rfl
theorem x_49_57 : Xp 49 d 57 ls ((0, b) :: (0, a) :: st) t g Q = Xp 49 d 58 ls ((0, hkW (a + b)) :: st) t g Q := Xp_go (i := .iadd) (len := 1) (by decide +kernel) rfl
theorem x_49_58 : Xp 49 d 58 ls ((0, x) :: (2, p) :: st) t g Q = (hkJK p = 2 ∧ Xp 49 d 61 ls st t (hkSet g p 1 x) Q) := xr_putI (idx := 23) (ci := 2) (k := 1) (by decide +kernel) (by decide +kernel) (by decide +kernel)
theorem x_49_61 : Xp 49 d 61 [(2, x), v1, v2, v3, v4, v5, v6] st t g Q = Xp 49 d 62 [(2, x), v1, v2, v3, v4, v5, v6] ((2, x) :: st) t g Q := Xp_go (i := .aload_n 0) (len := 1) (by decide +kernel) rfl
theorem x_49_62 : Xp 49 d 62 ls ((2, p) :: st) t g Q = (hkJK p = 2 ∧ jA p 3 ≤ t ∧ Xp 49 d 65 ls ((2, jR p 3) :: st) t g Q) := xr_getR (idx := 15) (ci := 2) (k := 3) (by decide +kernel) (by decide +kernel) (by decide +kernel)
theorem x_49_65 : Xp 49 d 65 ls ((2, p) :: st) t g Q = (hkJK p = 1 ∧ Xp 49 d 68 ls ((0, g p 0) :: st) t g Q) := xr_getI (idx := 26) (ci := 1) (k := 0) (by decide +kernel) (by decide +kernel) (by decide +kernel)
theorem x_49_68 : Xp 49 d 68 ls st t g Q = Xp 49 d 69 ls ((0, 2) :: st) t g Q := xr_const (c := 2) (by decide +kernel) (by decide)
theorem x_49_69 : Xp 49 d 69 ls ((0, b) :: (0, a) :: st) t g Q = (b ≠ 0 ∧ Xp 49 d 70 ls ((0, a.tmod b) :: st) t g Q) := Xp_chk (i := .irem) (len := 1) (by decide +kernel) rfl
theorem x_49_70 : Xp 49 d 70 ls ((0, a) :: st) t g Q = ((¬ (a = 0) → Xp 49 d 89 ls st t g Q) ∧ (¬ (¬ (a = 0)) → Xp 49 d 73 ls st t g Q)) := xr_if1 (cd := .ne) (off := 19) (by decide +kernel) (by decide)
theorem x_49_73 : Xp 49 d 73 [v0, v1, v2, v3, v4, (0, x), v6] st t g Q = Xp 49 d 75 [v0, v1, v2, v3, v4, (0, x), v6] ((0, x) :: st) t g Q := Xp_go (i := .iload 5) (len := 2) (by decide +kernel) rfl
theorem x_49_75 : Xp 49 d 75 ls st t g Q = Xp 49 d 76 ls ((0, 2) :: st) t g Q := xr_const (c := 2) (by decide +kernel) (by decide)
theorem x_49_76 : Xp 49 d 76 ls ((0, b) :: (0, a) :: st) t g Q = (b ≠ 0 ∧ Xp 49 d 77 ls ((0, a.tmod b) :: st) t g Q) := Xp_chk (i := .irem) (len := 1) (by decide +kernel) rfl
theorem x_49_77 : Xp 49 d 77 ls ((0, a) :: st) t g Q = ((a = 0 → Xp 49 d 89 ls st t g Q) ∧ (¬ (a = 0) → Xp 49 d 80 ls st t g Q)) := xr_if1 (cd := .eq) (off := 12) (by decide +kernel) (by decide)
theorem x_49_80 : Xp 49 d 80 [(2, x), v1, v2, v3, v4, v5, v6] st t g Q = Xp 49 d 81 [(2, x), v1, v2, v3, v4, v5, v6] ((2, x) :: st) t g Q := Xp_go (i := .aload_n 0) (len := 1) (by decide +kernel) rfl
theorem x_49_81 : Xp 49 d 81 [(2, x), v1, v2, v3, v4, v5, v6] st t g Q = Xp 49 d 82 [(2, x), v1, v2, v3, v4, v5, v6] ((2, x) :: st) t g Q := Xp_go (i := .aload_n 0) (len := 1) (by decide +kernel) rfl
theorem x_49_82 : Xp 49 d 82 ls ((2, p) :: st) t g Q = (hkJK p = 2 ∧ Xp 49 d 85 ls ((0, g p 0) :: st) t g Q) := xr_getI (idx := 19) (ci := 2) (k := 0) (by decide +kernel) (by decide +kernel) (by decide +kernel)
theorem x_49_85 : Xp 49 d 85 ls ((0, a) :: st) t g Q = Xp 49 d 86 ls ((0, hkW (-a)) :: st) t g Q := Xp_go (i := .ineg) (len := 1) (by decide +kernel) rfl
theorem x_49_86 : Xp 49 d 86 ls ((0, x) :: (2, p) :: st) t g Q = (hkJK p = 2 ∧ Xp 49 d 89 ls st t (hkSet g p 0 x) Q) := xr_putI (idx := 19) (ci := 2) (k := 0) (by decide +kernel) (by decide +kernel) (by decide +kernel)
theorem x_49_89 : Xp 49 d 89 [(2, x), v1, v2, v3, v4, v5, v6] st t g Q = Xp 49 d 90 [(2, x), v1, v2, v3, v4, v5, v6] ((2, x) :: st) t g Q := Xp_go (i := .aload_n 0) (len := 1) (by decide +kernel) rfl
theorem x_49_90 : Xp 49 d 90 ls ((2, p) :: st) t g Q = (hkJK p = 2 ∧ jA p 4 ≤ t ∧ Xp 49 d 93 ls ((2, jR p 4) :: st) t g Q) := xr_getR (idx := 9) (ci := 2) (k := 4) (by decide +kernel) (by decide +kernel) (by decide +kernel)
theorem x_49_93 : Xp 49 d 93 [v0, v1, v2, (0, x), v4, v5, v6] st t g Q = Xp 49 d 94 [v0, v1, v2, (0, x), v4, v5, v6] ((0, x) :: st) t g Q := Xp_go (i := .iload_n 3) (len := 1) (by decide +kernel) rfl
theorem x_49_94 : Xp 49 d 94 [v0, v1, v2, v3, (0, x), v5, v6] st t g Q = Xp 49 d 96 [v0, v1, v2, v3, (0, x), v5, v6] ((0, x) :: st) t g Q := Xp_go (i := .iload 4) (len := 2) (by decide +kernel) rfl
theorem x_49_96 : Xp 49 d 96 [(2, x), v1, v2, v3, v4, v5, v6] st t g Q = Xp 49 d 97 [(2, x), v1, v2, v3, v4, v5, v6] ((2, x) :: st) t g Q := Xp_go (i := .aload_n 0) (len := 1) (by decide +kernel) rfl
theorem x_49_97 : Xp 49 d 97 ls ((2, p) :: st) t g Q = (hkJK p = 2 ∧ jA p 3 ≤ t ∧ Xp 49 d 100 ls ((2, jR p 3) :: st) t g Q) := xr_getR (idx := 15) (ci := 2) (k := 3) (by decide +kernel) (by decide +kernel) (by decide +kernel)
theorem x_49_100 : Xp 49 d 100 ls ((2, p) :: st) t g Q = (hkJK p = 1 ∧ Xp 49 d 103 ls ((0, g p 1) :: st) t g Q) := xr_getI (idx := 35) (ci := 1) (k := 1) (by decide +kernel) (by decide +kernel) (by decide +kernel)
theorem x_49_103 : Xp 49 d 103 ls ((0, b) :: (0, a) :: st) t g Q = (b ≠ 0 ∧ Xp 49 d 104 ls ((0, a.tmod b) :: st) t g Q) := Xp_chk (i := .irem) (len := 1) (by decide +kernel) rfl
theorem x_49_104 : Xp 49 d 104 ls ((0, x) :: (0, a) :: (2, p) :: st) t g Q = ((hkJK p = 100 ∧ (100 = 102 → x = 0 ∨ x = 1) ∧ 0 ≤ a ∧ a < jL p) ∧ Xp 49 d 105 ls st t (hkSet g p a x) Q) := Xp_chk (i := .iastore) (len := 1) (by decide +kernel) rfl
theorem x_49_105 : Xp 49 d 105 ls st t g Q = Xp 49 d 106 ls ((0, 0) :: st) t g Q := xr_const (c := 0) (by decide +kernel) (by decide)
theorem x_49_106 : Xp 49 d 106 [v0, v1, v2, v3, v4, v5, v6] ((0, x) :: st) t g Q = (hkP1 v5 ∧ Xp 49 d 108 [v0, v1, v2, v3, v4, v5, (0, x)] st t g Q) := Xp_chk (i := .istore 6) (len := 2) (by decide +kernel) rfl
theorem x_49_108 : Xp 49 d 108 [v0, v1, v2, v3, v4, v5, (0, x)] st t g Q = Xp 49 d 110 [v0, v1, v2, v3, v4, v5, (0, x)] ((0, x) :: st) t g Q := Xp_go (i := .iload 6) (len := 2) (by decide +kernel) rfl
theorem x_49_110 : Xp 49 d 110 [v0, v1, v2, (0, x), v4, v5, v6] st t g Q = Xp 49 d 111 [v0, v1, v2, (0, x), v4, v5, v6] ((0, x) :: st) t g Q := Xp_go (i := .iload_n 3) (len := 1) (by decide +kernel) rfl
theorem x_49_111 : Xp 49 d 111 ls ((0, b) :: (0, a) :: st) t g Q = ((b ≤ a → Xp 49 d 145 ls st t g Q) ∧ (¬ (b ≤ a) → Xp 49 d 114 ls st t g Q)) := xr_if2 (cd := .ge) (off := 34) (by decide +kernel) (by decide)
theorem x_49_114 : Xp 49 d 114 [(2, x), v1, v2, v3, v4, v5, v6] st t g Q = Xp 49 d 115 [(2, x), v1, v2, v3, v4, v5, v6] ((2, x) :: st) t g Q := Xp_go (i := .aload_n 0) (len := 1) (by decide +kernel) rfl
theorem x_49_115 : Xp 49 d 115 ls (v :: st) t g Q = (hkP1 v ∧ Xp 49 d 116 ls (v :: v :: st) t g Q) := Xp_chk (i := .dup) (len := 1) (by decide +kernel) rfl
theorem x_49_116 : Xp 49 d 116 ls ((2, p) :: st) t g Q = (hkJK p = 2 ∧ Xp 49 d 119 ls ((0, g p 0) :: st) t g Q) := xr_getI (idx := 19) (ci := 2) (k := 0) (by decide +kernel) (by decide +kernel) (by decide +kernel)
theorem x_49_119 : Xp 49 d 119 [(2, x), v1, v2, v3, v4, v5, v6] st t g Q = Xp 49 d 120 [(2, x), v1, v2, v3, v4, v5, v6] ((2, x) :: st) t g Q := Xp_go (i := .aload_n 0) (len := 1) (by decide +kernel) rfl
theorem x_49_120 : Xp 49 d 120 ls ((2, p) :: st) t g Q = (hkJK p = 2 ∧ jA p 4 ≤ t ∧ Xp 49 d 123 ls ((2, jR p 4) :: st) t g Q) := xr_getR (idx := 9) (ci := 2) (k := 4) (by decide +kernel) (by decide +kernel) (by decide +kernel)
theorem x_49_123 : Xp 49 d 123 [v0, v1, v2, v3, v4, v5, (0, x)] st t g Q = Xp 49 d 125 [v0, v1, v2, v3, v4, v5, (0, x)] ((0, x) :: st) t g Q := Xp_go (i := .iload 6) (len := 2) (by decide +kernel) rfl
theorem x_49_125 : Xp 49 d 125 ls ((0, a) :: (2, p) :: st) t g Q = ((hkJK p = 100 ∧ 0 ≤ a ∧ a < jL p) ∧ Xp 49 d 126 ls ((0, g p a) :: st) t g Q) := Xp_chk (i := .iaload) (len := 1) (by decide +kernel) rfl
theorem x_49_126 : Xp 49 d 126 [(2, x), v1, v2, v3, v4, v5, v6] st t g Q = Xp 49 d 127 [(2, x), v1, v2, v3, v4, v5, v6] ((2, x) :: st) t g Q := Xp_go (i := .aload_n 0) (len := 1) (by decide +kernel) rfl
theorem x_49_127 : Xp 49 d 127 ls ((2, p) :: st) t g Q = (hkJK p = 2 ∧ jA p 4 ≤ t ∧ Xp 49 d 130 ls ((2, jR p 4) :: st) t g Q) := xr_getR (idx := 9) (ci := 2) (k := 4) (by decide +kernel) (by decide +kernel) (by decide +kernel)
theorem x_49_130 : Xp 49 d 130 [v0, v1, v2, (0, x), v4, v5, v6] st t g Q = Xp 49 d 131 [v0, v1, v2, (0, x), v4, v5, v6] ((0, x) :: st) t g Q := Xp_go (i := .iload_n 3) (len := 1) (by decide +kernel) rfl
theorem x_49_131 : Xp 49 d 131 ls ((0, a) :: (2, p) :: st) t g Q = ((hkJK p = 100 ∧ 0 ≤ a ∧ a < jL p) ∧ Xp 49 d 132 ls ((0, g p a) :: st) t g Q) := Xp_chk (i := .iaload) (len := 1) (by decide +kernel) rfl
theorem x_49_132 : Xp 49 (d + 1) 132 ls ((0, a1) :: (0, a0) :: st) t g Q = (hkC8 st ∧ Xp 172 d 0 [(0, a0), (0, a1)] [] t g (fun r t g => Xp 49 (d + 1) 135 ls (hkPush r st) t g Q)) := xr_invS (idx := 38) (y' := 172) (tg := [0, 0]) (by decide +kernel) (by decide +kernel) (by decide +kernel) rfl rfl
theorem x_49_135 : Xp 49 d 135 ls ((0, b) :: (0, a) :: st) t g Q = Xp 49 d 136 ls ((0, hkW (a * b)) :: st) t g Q := Xp_go (i := .imul) (len := 1) (by decide +kernel) rfl
theorem x_49_136 : Xp 49 d 136 ls ((0, x) :: (2, p) :: st) t g Q = (hkJK p = 2 ∧ Xp 49 d 139 ls st t (hkSet g p 0 x) Q) := xr_putI (idx := 19) (ci := 2) (k := 0) (by decide +kernel) (by decide +kernel) (by decide +kernel)
theorem x_49_139 : Xp 49 d 139 [v0, v1, v2, v3, v4, v5, (0, x)] st t g Q = (hkP1 v5 ∧ Xp 49 d 142 [v0, v1, v2, v3, v4, v5, (0, hkW (x + 1))] st t g Q) := Xp_chk (i := .iinc 6 (1)) (len := 3) (by decide +kernel) rfl
theorem x_49_142 : Xp 49 d 142 ls st t g Q = Xp 49 d 108 ls st t g Q := xr_goto (off := -34) (by decide +kernel) (by decide)
theorem x_49_145 : Xp 49 d 145 [v0, v1, (0, x), v3, v4, v5, v6] st t g Q = Xp 49 d 146 [v0, v1, (0, x), v3, v4, v5, v6] ((0, x) :: st) t g Q := Xp_go (i := .iload_n 2) (len := 1) (by decide +kernel) rfl
theorem x_49_146 : Xp 49 d 146 ls st t g Q = Xp 49 d 147 ls ((0, 1) :: st) t g Q := xr_const (c := 1) (by decide +kernel) (by decide)
theorem x_49_147 : Xp 49 d 147 [(2, x), v1, v2, v3, v4, v5, v6] st t g Q = Xp 49 d 148 [(2, x), v1, v2, v3, v4, v5, v6] ((2, x) :: st) t g Q := Xp_go (i := .aload_n 0) (len := 1) (by decide +kernel) rfl
theorem x_49_148 : Xp 49 d 148 ls ((2, p) :: st) t g Q = (hkJK p = 2 ∧ jA p 4 ≤ t ∧ Xp 49 d 151 ls ((2, jR p 4) :: st) t g Q) := xr_getR (idx := 9) (ci := 2) (k := 4) (by decide +kernel) (by decide +kernel) (by decide +kernel)
theorem x_49_151 : Xp 49 d 151 [v0, v1, v2, (0, x), v4, v5, v6] st t g Q = Xp 49 d 152 [v0, v1, v2, (0, x), v4, v5, v6] ((0, x) :: st) t g Q := Xp_go (i := .iload_n 3) (len := 1) (by decide +kernel) rfl
theorem x_49_152 : Xp 49 d 152 ls ((0, a) :: (2, p) :: st) t g Q = ((hkJK p = 100 ∧ 0 ≤ a ∧ a < jL p) ∧ Xp 49 d 153 ls ((0, g p a) :: st) t g Q) := Xp_chk (i := .iaload) (len := 1) (by decide +kernel) rfl
theorem x_49_153 : Xp 49 d 153 ls ((0, b) :: (0, a) :: st) t g Q = Xp 49 d 154 ls ((0, hkShl a b) :: st) t g Q := Xp_go (i := .ishl) (len := 1) (by decide +kernel) rfl
theorem x_49_154 : Xp 49 d 154 ls ((0, b) :: (0, a) :: st) t g Q = Xp 49 d 155 ls ((0, hkOr a b) :: st) t g Q := Xp_go (i := .ior) (len := 1) (by decide +kernel) rfl
theorem x_49_155 : Xp 49 d 155 [v0, v1, v2, v3, v4, v5, v6] ((0, x) :: st) t g Q = (hkP1 v1 ∧ Xp 49 d 156 [v0, v1, (0, x), v3, v4, v5, v6] st t g Q) := Xp_chk (i := .istore_n 2) (len := 1) (by decide +kernel) rfl
theorem x_49_156 : Xp 49 d 156 [v0, v1, v2, (0, x), v4, v5, v6] st t g Q = (hkP1 v2 ∧ Xp 49 d 159 [v0, v1, v2, (0, hkW (x + 1)), v4, v5, v6] st t g Q) := Xp_chk (i := .iinc 3 (1)) (len := 3) (by decide +kernel) rfl
theorem x_49_159 : Xp 49 d 159 ls st t g Q = Xp 49 d 14 ls st t g Q := xr_goto (off := -145) (by decide +kernel) (by decide)
theorem x_49_162 : Xp 49 d 162 [(2, x), v1, v2, v3, v4, v5, v6] st t g Q = Xp 49 d 163 [(2, x), v1, v2, v3, v4, v5, v6] ((2, x) :: st) t g Q := Xp_go (i := .aload_n 0) (len := 1) (by decide +kernel) rfl
theorem x_49_163 : Xp 49 d 163 [(2, x), v1, v2, v3, v4, v5, v6] st t g Q = Xp 49 d 164 [(2, x), v1, v2, v3, v4, v5, v6] ((2, x) :: st) t g Q := Xp_go (i := .aload_n 0) (len := 1) (by decide +kernel) rfl
theorem x_49_164 : Xp 49 d 164 ls ((2, p) :: st) t g Q = (hkJK p = 2 ∧ Xp 49 d 167 ls ((0, g p 0) :: st) t g Q) := xr_getI (idx := 19) (ci := 2) (k := 0) (by decide +kernel) (by decide +kernel) (by decide +kernel)
theorem x_49_167 : Xp 49 d 167 ls ((0, a) :: st) t g Q = ((¬ (a = 0) → Xp 49 d 174 ls st t g Q) ∧ (¬ (¬ (a = 0)) → Xp 49 d 170 ls st t g Q)) := xr_if1 (cd := .ne) (off := 7) (by decide +kernel) (by decide)
theorem x_49_170 : Xp 49 d 170 ls st t g Q = Xp 49 d 171 ls ((0, -1) :: st) t g Q := xr_const (c := -1) (by decide +kernel) (by decide)
theorem x_49_171 : Xp 49 d 171 ls st t g Q = Xp 49 d 182 ls st t g Q := xr_goto (off := 11) (by decide +kernel) (by decide)
theorem x_49_174 : Xp 49 d 174 [(2, x), v1, v2, v3, v4, v5, v6] st t g Q = Xp 49 d 175 [(2, x), v1, v2, v3, v4, v5, v6] ((2, x) :: st) t g Q := Xp_go (i := .aload_n 0) (len := 1) (by decide +kernel) rfl
theorem x_49_175 : Xp 49 d 175 ls ((2, p) :: st) t g Q = (hkJK p = 2 ∧ jA p 3 ≤ t ∧ Xp 49 d 178 ls ((2, jR p 3) :: st) t g Q) := xr_getR (idx := 15) (ci := 2) (k := 3) (by decide +kernel) (by decide +kernel) (by decide +kernel)
theorem x_49_178 : Xp 49 d 178 [v0, v1, (0, x), v3, v4, v5, v6] st t g Q = Xp 49 d 179 [v0, v1, (0, x), v3, v4, v5, v6] ((0, x) :: st) t g Q := Xp_go (i := .iload_n 2) (len := 1) (by decide +kernel) rfl
theorem x_49_179 : Xp 49 (d + 1) 179 ls ((0, a1) :: (2, a0) :: st) t g Q = (hkJK a0 = 1 ∧ hkC8 st ∧ Xp 38 d 0 [(2, a0), (0, a1)] [] t g (fun r t g => Xp 49 (d + 1) 182 ls (hkPush r st) t g Q)) := xr_invV (idx := 43) (y' := 38) (ci := 1) (tg := [2, 0]) (by decide +kernel) (by decide +kernel) (by decide +kernel) (by decide +kernel) rfl rfl rfl
theorem x_49_182 : Xp 49 d 182 ls ((0, x) :: (2, p) :: st) t g Q = (hkJK p = 2 ∧ Xp 49 d 185 ls st t (hkSet g p 2 x) Q) := xr_putI (idx := 47) (ci := 2) (k := 2) (by decide +kernel) (by decide +kernel) (by decide +kernel)
theorem x_49_185 : Xp 49 d 185 ls [] t g Q = Q none t g := xr_retV (by decide +kernel) (by decide +kernel)
end XROWS
end
