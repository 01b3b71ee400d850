section
/-- a private method of a class that the tables say can be made, by its rows of tables_1 -/
def lw_okq (q : MethodName × Nat) : Prop := (q.1.cls ≠ "java/lang/invoke/MethodHandle" ∧ q.1.cls ≠ "java/lang/invoke/VarHandle") ∧ Cond.instantiable q.1.cls q.2 ∈ tables_1 ∧ Cond.privateMethod q.1 ∈ tables_1 ∧ Cond.instanceMethod q.1 ∈ tables_1
theorem lw_p0 : lw_okq (⟨"BottleneckShop", "record", "()V"⟩, 16) := ⟨⟨by decide +kernel, by decide +kernel⟩, List.mem_of_getElem? (i := 10) (by decide +kernel), List.mem_of_getElem? (i := 277) (by decide +kernel), List.mem_of_getElem? (i := 278) (by decide +kernel)⟩
theorem lw_p1 : lw_okq (⟨"BottleneckShop", "forgetAnswers", "()V"⟩, 16) := ⟨⟨by decide +kernel, by decide +kernel⟩, List.mem_of_getElem? (i := 10) (by decide +kernel), List.mem_of_getElem? (i := 292) (by decide +kernel), List.mem_of_getElem? (i := 293) (by decide +kernel)⟩
theorem lw_p2 : lw_okq (⟨"BottleneckShop", "knowPlan", "()Z"⟩, 16) := ⟨⟨by decide +kernel, by decide +kernel⟩, List.mem_of_getElem? (i := 10) (by decide +kernel), List.mem_of_getElem? (i := 339) (by decide +kernel), List.mem_of_getElem? (i := 340) (by decide +kernel)⟩
theorem lw_p3 : lw_okq (⟨"BottleneckShop$Net", "sortAlong", "(I)V"⟩, 15) := ⟨⟨by decide +kernel, by decide +kernel⟩, List.mem_of_getElem? (i := 109) (by decide +kernel), List.mem_of_getElem? (i := 368) (by decide +kernel), List.mem_of_getElem? (i := 369) (by decide +kernel)⟩
theorem lw_p4 : lw_okq (⟨"BottleneckShop$Net", "headOf", "(I)I"⟩, 15) := ⟨⟨by decide +kernel, by decide +kernel⟩, List.mem_of_getElem? (i := 109) (by decide +kernel), List.mem_of_getElem? (i := 372) (by decide +kernel), List.mem_of_getElem? (i := 373) (by decide +kernel)⟩
theorem lw_p5 : lw_okq (⟨"BottleneckShop$Net", "tailOf", "(I)I"⟩, 15) := ⟨⟨by decide +kernel, by decide +kernel⟩, List.mem_of_getElem? (i := 109) (by decide +kernel), List.mem_of_getElem? (i := 376) (by decide +kernel), List.mem_of_getElem? (i := 377) (by decide +kernel)⟩
theorem lw_p6 : lw_okq (⟨"BottleneckShop$Path", "first", "(LBottleneckShop$Net;LBottleneckShop$State;)I"⟩, 2) := ⟨⟨by decide +kernel, by decide +kernel⟩, List.mem_of_getElem? (i := 167) (by decide +kernel), List.mem_of_getElem? (i := 388) (by decide +kernel), List.mem_of_getElem? (i := 389) (by decide +kernel)⟩
theorem lw_p7 : lw_okq (⟨"BottleneckShop$Path", "next", "(LBottleneckShop$Net;LBottleneckShop$State;I)I"⟩, 2) := ⟨⟨by decide +kernel, by decide +kernel⟩, List.mem_of_getElem? (i := 167) (by decide +kernel), List.mem_of_getElem? (i := 397) (by decide +kernel), List.mem_of_getElem? (i := 398) (by decide +kernel)⟩
theorem lw_p8 : lw_okq (⟨"BottleneckShop$Path", "goesOn", "(LBottleneckShop$Net;II)Z"⟩, 2) := ⟨⟨by decide +kernel, by decide +kernel⟩, List.mem_of_getElem? (i := 167) (by decide +kernel), List.mem_of_getElem? (i := 402) (by decide +kernel), List.mem_of_getElem? (i := 403) (by decide +kernel)⟩
theorem lw_p9 : lw_okq (⟨"BottleneckShop$Net", "nextHead", "(II)I"⟩, 15) := ⟨⟨by decide +kernel, by decide +kernel⟩, List.mem_of_getElem? (i := 109) (by decide +kernel), List.mem_of_getElem? (i := 441) (by decide +kernel), List.mem_of_getElem? (i := 442) (by decide +kernel)⟩
theorem lw_p10 : lw_okq (⟨"BottleneckShop$Net", "mostUrgent", "(II)I"⟩, 15) := ⟨⟨by decide +kernel, by decide +kernel⟩, List.mem_of_getElem? (i := 109) (by decide +kernel), List.mem_of_getElem? (i := 445) (by decide +kernel), List.mem_of_getElem? (i := 446) (by decide +kernel)⟩
theorem lw_p11 : lw_okq (⟨"BottleneckShop$Search", "complete", "(II)Z"⟩, 8) := ⟨⟨by decide +kernel, by decide +kernel⟩, List.mem_of_getElem? (i := 182) (by decide +kernel), List.mem_of_getElem? (i := 449) (by decide +kernel), List.mem_of_getElem? (i := 450) (by decide +kernel)⟩
theorem lw_p12 : lw_okq (⟨"BottleneckShop$Net", "forceOn", "(II)I"⟩, 15) := ⟨⟨by decide +kernel, by decide +kernel⟩, List.mem_of_getElem? (i := 109) (by decide +kernel), List.mem_of_getElem? (i := 458) (by decide +kernel), List.mem_of_getElem? (i := 459) (by decide +kernel)⟩
theorem lw_p13 : lw_okq (⟨"BottleneckShop$Net", "undecided", "(II)Z"⟩, 15) := ⟨⟨by decide +kernel, by decide +kernel⟩, List.mem_of_getElem? (i := 109) (by decide +kernel), List.mem_of_getElem? (i := 462) (by decide +kernel), List.mem_of_getElem? (i := 463) (by decide +kernel)⟩
theorem lw_p14 : lw_okq (⟨"BottleneckShop$Net", "wayThrough", "(II)I"⟩, 15) := ⟨⟨by decide +kernel, by decide +kernel⟩, List.mem_of_getElem? (i := 109) (by decide +kernel), List.mem_of_getElem? (i := 470) (by decide +kernel), List.mem_of_getElem? (i := 471) (by decide +kernel)⟩
theorem lw_p15 : lw_okq (⟨"BottleneckShop$Search", "settle", "(I)I"⟩, 8) := ⟨⟨by decide +kernel, by decide +kernel⟩, List.mem_of_getElem? (i := 182) (by decide +kernel), List.mem_of_getElem? (i := 483) (by decide +kernel), List.mem_of_getElem? (i := 484) (by decide +kernel)⟩
def lw_privs_1 : List (MethodName × Nat) := [(⟨"BottleneckShop", "record", "()V"⟩, 16), (⟨"BottleneckShop", "forgetAnswers", "()V"⟩, 16), (⟨"BottleneckShop", "knowPlan", "()Z"⟩, 16), (⟨"BottleneckShop$Net", "sortAlong", "(I)V"⟩, 15), (⟨"BottleneckShop$Net", "headOf", "(I)I"⟩, 15), (⟨"BottleneckShop$Net", "tailOf", "(I)I"⟩, 15), (⟨"BottleneckShop$Path", "first", "(LBottleneckShop$Net;LBottleneckShop$State;)I"⟩, 2), (⟨"BottleneckShop$Path", "next", "(LBottleneckShop$Net;LBottleneckShop$State;I)I"⟩, 2), (⟨"BottleneckShop$Path", "goesOn", "(LBottleneckShop$Net;II)Z"⟩, 2), (⟨"BottleneckShop$Net", "nextHead", "(II)I"⟩, 15), (⟨"BottleneckShop$Net", "mostUrgent", "(II)I"⟩, 15), (⟨"BottleneckShop$Search", "complete", "(II)Z"⟩, 8), (⟨"BottleneckShop$Net", "forceOn", "(II)I"⟩, 15), (⟨"BottleneckShop$Net", "undecided", "(II)Z"⟩, 15), (⟨"BottleneckShop$Net", "wayThrough", "(II)I"⟩, 15), (⟨"BottleneckShop$Search", "settle", "(I)I"⟩, 8)]
theorem lw_r1 : ∀ q ∈ lw_privs_1, lw_okq q := List.forall_mem_cons.mpr ⟨lw_p0, List.forall_mem_cons.mpr ⟨lw_p1, List.forall_mem_cons.mpr ⟨lw_p2, List.forall_mem_cons.mpr ⟨lw_p3, List.forall_mem_cons.mpr ⟨lw_p4, List.forall_mem_cons.mpr ⟨lw_p5, List.forall_mem_cons.mpr ⟨lw_p6, List.forall_mem_cons.mpr ⟨lw_p7, List.forall_mem_cons.mpr ⟨lw_p8, List.forall_mem_cons.mpr ⟨lw_p9, List.forall_mem_cons.mpr ⟨lw_p10, List.forall_mem_cons.mpr ⟨lw_p11, List.forall_mem_cons.mpr ⟨lw_p12, List.forall_mem_cons.mpr ⟨lw_p13, List.forall_mem_cons.mpr ⟨lw_p14, List.forall_mem_cons.mpr ⟨lw_p15, fun _ h => absurd h List.not_mem_nil⟩⟩⟩⟩⟩⟩⟩⟩⟩⟩⟩⟩⟩⟩⟩⟩
theorem lw_p16 : lw_okq (⟨"BottleneckShop$Search", "jobsLeft", "(I)I"⟩, 8) := ⟨⟨by decide +kernel, by decide +kernel⟩, List.mem_of_getElem? (i := 182) (by decide +kernel), List.mem_of_getElem? (i := 487) (by decide +kernel), List.mem_of_getElem? (i := 488) (by decide +kernel)⟩
theorem lw_p17 : lw_okq (⟨"BottleneckShop", "lengthBehindNext", "(I)I"⟩, 16) := ⟨⟨by decide +kernel, by decide +kernel⟩, List.mem_of_getElem? (i := 10) (by decide +kernel), List.mem_of_getElem? (i := 498) (by decide +kernel), List.mem_of_getElem? (i := 499) (by decide +kernel)⟩
theorem lw_p18 : lw_okq (⟨"BottleneckShop", "timeAbout", "(II)I"⟩, 16) := ⟨⟨by decide +kernel, by decide +kernel⟩, List.mem_of_getElem? (i := 10) (by decide +kernel), List.mem_of_getElem? (i := 511) (by decide +kernel), List.mem_of_getElem? (i := 512) (by decide +kernel)⟩
theorem lw_p19 : lw_okq (⟨"BottleneckShop", "endOfJob", "(I)I"⟩, 16) := ⟨⟨by decide +kernel, by decide +kernel⟩, List.mem_of_getElem? (i := 10) (by decide +kernel), List.mem_of_getElem? (i := 537) (by decide +kernel), List.mem_of_getElem? (i := 538) (by decide +kernel)⟩
theorem lw_p20 : lw_okq (⟨"BottleneckShop", "lateness", "(I)I"⟩, 16) := ⟨⟨by decide +kernel, by decide +kernel⟩, List.mem_of_getElem? (i := 10) (by decide +kernel), List.mem_of_getElem? (i := 542) (by decide +kernel), List.mem_of_getElem? (i := 543) (by decide +kernel)⟩
theorem lw_p21 : lw_okq (⟨"BottleneckShop", "numberOfPlan", "(I)I"⟩, 16) := ⟨⟨by decide +kernel, by decide +kernel⟩, List.mem_of_getElem? (i := 10) (by decide +kernel), List.mem_of_getElem? (i := 559) (by decide +kernel), List.mem_of_getElem? (i := 560) (by decide +kernel)⟩
theorem lw_p22 : lw_okq (⟨"BottleneckShop", "sumOfLateness", "()I"⟩, 16) := ⟨⟨by decide +kernel, by decide +kernel⟩, List.mem_of_getElem? (i := 10) (by decide +kernel), List.mem_of_getElem? (i := 567) (by decide +kernel), List.mem_of_getElem? (i := 568) (by decide +kernel)⟩
theorem lw_p23 : lw_okq (⟨"BottleneckShop", "greatestLateness", "()I"⟩, 16) := ⟨⟨by decide +kernel, by decide +kernel⟩, List.mem_of_getElem? (i := 10) (by decide +kernel), List.mem_of_getElem? (i := 571) (by decide +kernel), List.mem_of_getElem? (i := 572) (by decide +kernel)⟩
theorem lw_p24 : lw_okq (⟨"BottleneckShop", "takeBreakdown", "(III)V"⟩, 16) := ⟨⟨by decide +kernel, by decide +kernel⟩, List.mem_of_getElem? (i := 10) (by decide +kernel), List.mem_of_getElem? (i := 603) (by decide +kernel), List.mem_of_getElem? (i := 604) (by decide +kernel)⟩
theorem lw_p25 : lw_okq (⟨"BottleneckShop", "stays", "(III)Z"⟩, 16) := ⟨⟨by decide +kernel, by decide +kernel⟩, List.mem_of_getElem? (i := 10) (by decide +kernel), List.mem_of_getElem? (i := 608) (by decide +kernel), List.mem_of_getElem? (i := 609) (by decide +kernel)⟩
theorem lw_p26 : lw_okq (⟨"BottleneckShop$Pad", "readJob", "(LBottleneckShop$State;)Z"⟩, 4) := ⟨⟨by decide +kernel, by decide +kernel⟩, List.mem_of_getElem? (i := 87) (by decide +kernel), List.mem_of_getElem? (i := 645) (by decide +kernel), List.mem_of_getElem? (i := 646) (by decide +kernel)⟩
theorem lw_p27 : lw_okq (⟨"BottleneckShop$Pad", "take", "(C)Z"⟩, 4) := ⟨⟨by decide +kernel, by decide +kernel⟩, List.mem_of_getElem? (i := 87) (by decide +kernel), List.mem_of_getElem? (i := 649) (by decide +kernel), List.mem_of_getElem? (i := 650) (by decide +kernel)⟩
theorem lw_p28 : lw_okq (⟨"BottleneckShop$Pad", "number", "(II)I"⟩, 4) := ⟨⟨by decide +kernel, by decide +kernel⟩, List.mem_of_getElem? (i := 87) (by decide +kernel), List.mem_of_getElem? (i := 653) (by decide +kernel), List.mem_of_getElem? (i := 654) (by decide +kernel)⟩
theorem lw_p29 : lw_okq (⟨"BottleneckShop$Pad", "digit", "()I"⟩, 4) := ⟨⟨by decide +kernel, by decide +kernel⟩, List.mem_of_getElem? (i := 87) (by decide +kernel), List.mem_of_getElem? (i := 657) (by decide +kernel), List.mem_of_getElem? (i := 658) (by decide +kernel)⟩
theorem lw_p30 : lw_okq (⟨"BottleneckShop$Pad", "readOperation", "(LBottleneckShop$State;I)Z"⟩, 4) := ⟨⟨by decide +kernel, by decide +kernel⟩, List.mem_of_getElem? (i := 87) (by decide +kernel), List.mem_of_getElem? (i := 662) (by decide +kernel), List.mem_of_getElem? (i := 663) (by decide +kernel)⟩
theorem lw_p31 : lw_okq (⟨"BottleneckShop$Pad", "readOrder", "(LBottleneckShop$State;)Z"⟩, 4) := ⟨⟨by decide +kernel, by decide +kernel⟩, List.mem_of_getElem? (i := 87) (by decide +kernel), List.mem_of_getElem? (i := 672) (by decide +kernel), List.mem_of_getElem? (i := 673) (by decide +kernel)⟩
def lw_privs_2 : List (MethodName × Nat) := [(⟨"BottleneckShop$Search", "jobsLeft", "(I)I"⟩, 8), (⟨"BottleneckShop", "lengthBehindNext", "(I)I"⟩, 16), (⟨"BottleneckShop", "timeAbout", "(II)I"⟩, 16), (⟨"BottleneckShop", "endOfJob", "(I)I"⟩, 16), (⟨"BottleneckShop", "lateness", "(I)I"⟩, 16), (⟨"BottleneckShop", "numberOfPlan", "(I)I"⟩, 16), (⟨"BottleneckShop", "sumOfLateness", "()I"⟩, 16), (⟨"BottleneckShop", "greatestLateness", "()I"⟩, 16), (⟨"BottleneckShop", "takeBreakdown", "(III)V"⟩, 16), (⟨"BottleneckShop", "stays", "(III)Z"⟩, 16), (⟨"BottleneckShop$Pad", "readJob", "(LBottleneckShop$State;)Z"⟩, 4), (⟨"BottleneckShop$Pad", "take", "(C)Z"⟩, 4), (⟨"BottleneckShop$Pad", "number", "(II)I"⟩, 4), (⟨"BottleneckShop$Pad", "digit", "()I"⟩, 4), (⟨"BottleneckShop$Pad", "readOperation", "(LBottleneckShop$State;I)Z"⟩, 4), (⟨"BottleneckShop$Pad", "readOrder", "(LBottleneckShop$State;)Z"⟩, 4)]
theorem lw_r2 : ∀ q ∈ lw_privs_2, lw_okq q := List.forall_mem_cons.mpr ⟨lw_p16, List.forall_mem_cons.mpr ⟨lw_p17, List.forall_mem_cons.mpr ⟨lw_p18, List.forall_mem_cons.mpr ⟨lw_p19, List.forall_mem_cons.mpr ⟨lw_p20, List.forall_mem_cons.mpr ⟨lw_p21, List.forall_mem_cons.mpr ⟨lw_p22, List.forall_mem_cons.mpr ⟨lw_p23, List.forall_mem_cons.mpr ⟨lw_p24, List.forall_mem_cons.mpr ⟨lw_p25, List.forall_mem_cons.mpr ⟨lw_p26, List.forall_mem_cons.mpr ⟨lw_p27, List.forall_mem_cons.mpr ⟨lw_p28, List.forall_mem_cons.mpr ⟨lw_p29, List.forall_mem_cons.mpr ⟨lw_p30, List.forall_mem_cons.mpr ⟨lw_p31, fun _ h => absurd h List.not_mem_nil⟩⟩⟩⟩⟩⟩⟩⟩⟩⟩⟩⟩⟩⟩⟩⟩
theorem lw_p32 : lw_okq (⟨"BottleneckShop$Pad", "anotherJobFor", "(I)Z"⟩, 4) := ⟨⟨by decide +kernel, by decide +kernel⟩, List.mem_of_getElem? (i := 87) (by decide +kernel), List.mem_of_getElem? (i := 684) (by decide +kernel), List.mem_of_getElem? (i := 685) (by decide +kernel)⟩
theorem lw_p33 : lw_okq (⟨"BottleneckShopModel", "keep", "()V"⟩, 25) := ⟨⟨by decide +kernel, by decide +kernel⟩, List.mem_of_getElem? (i := 720) (by decide +kernel), List.mem_of_getElem? (i := 809) (by decide +kernel), List.mem_of_getElem? (i := 810) (by decide +kernel)⟩
theorem lw_p34 : lw_okq (⟨"BottleneckShopModel", "addJob", "(II)V"⟩, 25) := ⟨⟨by decide +kernel, by decide +kernel⟩, List.mem_of_getElem? (i := 720) (by decide +kernel), List.mem_of_getElem? (i := 813) (by decide +kernel), List.mem_of_getElem? (i := 814) (by decide +kernel)⟩
theorem lw_p35 : lw_okq (⟨"BottleneckShopModel", "isJob", "(I)Z"⟩, 25) := ⟨⟨by decide +kernel, by decide +kernel⟩, List.mem_of_getElem? (i := 720) (by decide +kernel), List.mem_of_getElem? (i := 821) (by decide +kernel), List.mem_of_getElem? (i := 822) (by decide +kernel)⟩
theorem lw_p36 : lw_okq (⟨"BottleneckShopModel", "operationOn", "(II)I"⟩, 25) := ⟨⟨by decide +kernel, by decide +kernel⟩, List.mem_of_getElem? (i := 720) (by decide +kernel), List.mem_of_getElem? (i := 825) (by decide +kernel), List.mem_of_getElem? (i := 826) (by decide +kernel)⟩
theorem lw_p37 : lw_okq (⟨"BottleneckShopModel", "ofAJob", "(II)I"⟩, 25) := ⟨⟨by decide +kernel, by decide +kernel⟩, List.mem_of_getElem? (i := 720) (by decide +kernel), List.mem_of_getElem? (i := 829) (by decide +kernel), List.mem_of_getElem? (i := 830) (by decide +kernel)⟩
theorem lw_p38 : lw_okq (⟨"BottleneckShopModel", "machineOf", "(I)I"⟩, 25) := ⟨⟨by decide +kernel, by decide +kernel⟩, List.mem_of_getElem? (i := 720) (by decide +kernel), List.mem_of_getElem? (i := 833) (by decide +kernel), List.mem_of_getElem? (i := 834) (by decide +kernel)⟩
theorem lw_p39 : lw_okq (⟨"BottleneckShopModel", "addOperation", "(III)I"⟩, 25) := ⟨⟨by decide +kernel, by decide +kernel⟩, List.mem_of_getElem? (i := 720) (by decide +kernel), List.mem_of_getElem? (i := 837) (by decide +kernel), List.mem_of_getElem? (i := 838) (by decide +kernel)⟩
theorem lw_p40 : lw_okq (⟨"BottleneckShopModel", "isOperation", "(I)Z"⟩, 25) := ⟨⟨by decide +kernel, by decide +kernel⟩, List.mem_of_getElem? (i := 720) (by decide +kernel), List.mem_of_getElem? (i := 845) (by decide +kernel), List.mem_of_getElem? (i := 846) (by decide +kernel)⟩
theorem lw_p41 : lw_okq (⟨"BottleneckShopModel", "lasts", "(I)I"⟩, 25) := ⟨⟨by decide +kernel, by decide +kernel⟩, List.mem_of_getElem? (i := 720) (by decide +kernel), List.mem_of_getElem? (i := 849) (by decide +kernel), List.mem_of_getElem? (i := 850) (by decide +kernel)⟩
theorem lw_p42 : lw_okq (⟨"BottleneckShopModel", "find", "()Z"⟩, 25) := ⟨⟨by decide +kernel, by decide +kernel⟩, List.mem_of_getElem? (i := 720) (by decide +kernel), List.mem_of_getElem? (i := 857) (by decide +kernel), List.mem_of_getElem? (i := 858) (by decide +kernel)⟩
theorem lw_p43 : lw_okq (⟨"BottleneckShopModel", "nothingStays", "()V"⟩, 25) := ⟨⟨by decide +kernel, by decide +kernel⟩, List.mem_of_getElem? (i := 720) (by decide +kernel), List.mem_of_getElem? (i := 861) (by decide +kernel), List.mem_of_getElem? (i := 862) (by decide +kernel)⟩
theorem lw_p44 : lw_okq (⟨"BottleneckShopModel", "findHeads", "(I)Z"⟩, 25) := ⟨⟨by decide +kernel, by decide +kernel⟩, List.mem_of_getElem? (i := 720) (by decide +kernel), List.mem_of_getElem? (i := 865) (by decide +kernel), List.mem_of_getElem? (i := 866) (by decide +kernel)⟩
theorem lw_p45 : lw_okq (⟨"BottleneckShopModel", "operationAt", "(II)I"⟩, 25) := ⟨⟨by decide +kernel, by decide +kernel⟩, List.mem_of_getElem? (i := 720) (by decide +kernel), List.mem_of_getElem? (i := 869) (by decide +kernel), List.mem_of_getElem? (i := 870) (by decide +kernel)⟩
theorem lw_p46 : lw_okq (⟨"BottleneckShopModel", "jobAt", "(II)I"⟩, 25) := ⟨⟨by decide +kernel, by decide +kernel⟩, List.mem_of_getElem? (i := 720) (by decide +kernel), List.mem_of_getElem? (i := 873) (by decide +kernel), List.mem_of_getElem? (i := 874) (by decide +kernel)⟩
theorem lw_p47 : lw_okq (⟨"BottleneckShopModel", "raiseHead", "(II)Z"⟩, 25) := ⟨⟨by decide +kernel, by decide +kernel⟩, List.mem_of_getElem? (i := 720) (by decide +kernel), List.mem_of_getElem? (i := 877) (by decide +kernel), List.mem_of_getElem? (i := 878) (by decide +kernel)⟩
def lw_privs_3 : List (MethodName × Nat) := [(⟨"BottleneckShop$Pad", "anotherJobFor", "(I)Z"⟩, 4), (⟨"BottleneckShopModel", "keep", "()V"⟩, 25), (⟨"BottleneckShopModel", "addJob", "(II)V"⟩, 25), (⟨"BottleneckShopModel", "isJob", "(I)Z"⟩, 25), (⟨"BottleneckShopModel", "operationOn", "(II)I"⟩, 25), (⟨"BottleneckShopModel", "ofAJob", "(II)I"⟩, 25), (⟨"BottleneckShopModel", "machineOf", "(I)I"⟩, 25), (⟨"BottleneckShopModel", "addOperation", "(III)I"⟩, 25), (⟨"BottleneckShopModel", "isOperation", "(I)Z"⟩, 25), (⟨"BottleneckShopModel", "lasts", "(I)I"⟩, 25), (⟨"BottleneckShopModel", "find", "()Z"⟩, 25), (⟨"BottleneckShopModel", "nothingStays", "()V"⟩, 25), (⟨"BottleneckShopModel", "findHeads", "(I)Z"⟩, 25), (⟨"BottleneckShopModel", "operationAt", "(II)I"⟩, 25), (⟨"BottleneckShopModel", "jobAt", "(II)I"⟩, 25), (⟨"BottleneckShopModel", "raiseHead", "(II)Z"⟩, 25)]
theorem lw_r3 : ∀ q ∈ lw_privs_3, lw_okq q := List.forall_mem_cons.mpr ⟨lw_p32, List.forall_mem_cons.mpr ⟨lw_p33, List.forall_mem_cons.mpr ⟨lw_p34, List.forall_mem_cons.mpr ⟨lw_p35, List.forall_mem_cons.mpr ⟨lw_p36, List.forall_mem_cons.mpr ⟨lw_p37, List.forall_mem_cons.mpr ⟨lw_p38, List.forall_mem_cons.mpr ⟨lw_p39, List.forall_mem_cons.mpr ⟨lw_p40, List.forall_mem_cons.mpr ⟨lw_p41, List.forall_mem_cons.mpr ⟨lw_p42, List.forall_mem_cons.mpr ⟨lw_p43, List.forall_mem_cons.mpr ⟨lw_p44, List.forall_mem_cons.mpr ⟨lw_p45, List.forall_mem_cons.mpr ⟨lw_p46, List.forall_mem_cons.mpr ⟨lw_p47, fun _ h => absurd h List.not_mem_nil⟩⟩⟩⟩⟩⟩⟩⟩⟩⟩⟩⟩⟩⟩⟩⟩
theorem lw_p48 : lw_okq (⟨"BottleneckShopModel", "beforeOnRoute", "(I)I"⟩, 25) := ⟨⟨by decide +kernel, by decide +kernel⟩, List.mem_of_getElem? (i := 720) (by decide +kernel), List.mem_of_getElem? (i := 884) (by decide +kernel), List.mem_of_getElem? (i := 885) (by decide +kernel)⟩
theorem lw_p49 : lw_okq (⟨"BottleneckShopModel", "endOf", "(I)I"⟩, 25) := ⟨⟨by decide +kernel, by decide +kernel⟩, List.mem_of_getElem? (i := 720) (by decide +kernel), List.mem_of_getElem? (i := 888) (by decide +kernel), List.mem_of_getElem? (i := 889) (by decide +kernel)⟩
theorem lw_p50 : lw_okq (⟨"BottleneckShopModel", "findTails", "()V"⟩, 25) := ⟨⟨by decide +kernel, by decide +kernel⟩, List.mem_of_getElem? (i := 720) (by decide +kernel), List.mem_of_getElem? (i := 892) (by decide +kernel), List.mem_of_getElem? (i := 893) (by decide +kernel)⟩
theorem lw_p51 : lw_okq (⟨"BottleneckShopModel", "behindOnRoute", "(I)I"⟩, 25) := ⟨⟨by decide +kernel, by decide +kernel⟩, List.mem_of_getElem? (i := 720) (by decide +kernel), List.mem_of_getElem? (i := 896) (by decide +kernel), List.mem_of_getElem? (i := 897) (by decide +kernel)⟩
theorem lw_p52 : lw_okq (⟨"BottleneckShopModel", "withTail", "(I)I"⟩, 25) := ⟨⟨by decide +kernel, by decide +kernel⟩, List.mem_of_getElem? (i := 720) (by decide +kernel), List.mem_of_getElem? (i := 900) (by decide +kernel), List.mem_of_getElem? (i := 901) (by decide +kernel)⟩
theorem lw_p53 : lw_okq (⟨"BottleneckShopModel", "lastEnd", "()I"⟩, 25) := ⟨⟨by decide +kernel, by decide +kernel⟩, List.mem_of_getElem? (i := 720) (by decide +kernel), List.mem_of_getElem? (i := 904) (by decide +kernel), List.mem_of_getElem? (i := 905) (by decide +kernel)⟩
theorem lw_p54 : lw_okq (⟨"BottleneckShopModel", "exchange", "(II)V"⟩, 25) := ⟨⟨by decide +kernel, by decide +kernel⟩, List.mem_of_getElem? (i := 720) (by decide +kernel), List.mem_of_getElem? (i := 912) (by decide +kernel), List.mem_of_getElem? (i := 913) (by decide +kernel)⟩
theorem lw_p55 : lw_okq (⟨"BottleneckShopModel", "findCritical", "()V"⟩, 25) := ⟨⟨by decide +kernel, by decide +kernel⟩, List.mem_of_getElem? (i := 720) (by decide +kernel), List.mem_of_getElem? (i := 920) (by decide +kernel), List.mem_of_getElem? (i := 921) (by decide +kernel)⟩
theorem lw_p56 : lw_okq (⟨"BottleneckShopModel", "isCritical", "(I)Z"⟩, 25) := ⟨⟨by decide +kernel, by decide +kernel⟩, List.mem_of_getElem? (i := 720) (by decide +kernel), List.mem_of_getElem? (i := 924) (by decide +kernel), List.mem_of_getElem? (i := 925) (by decide +kernel)⟩
theorem lw_p57 : lw_okq (⟨"BottleneckShopModel", "throughOf", "(I)I"⟩, 25) := ⟨⟨by decide +kernel, by decide +kernel⟩, List.mem_of_getElem? (i := 720) (by decide +kernel), List.mem_of_getElem? (i := 928) (by decide +kernel), List.mem_of_getElem? (i := 929) (by decide +kernel)⟩
theorem lw_p58 : lw_okq (⟨"BottleneckShopModel", "placeOf", "(I)I"⟩, 25) := ⟨⟨by decide +kernel, by decide +kernel⟩, List.mem_of_getElem? (i := 720) (by decide +kernel), List.mem_of_getElem? (i := 932) (by decide +kernel), List.mem_of_getElem? (i := 933) (by decide +kernel)⟩
theorem lw_p59 : lw_okq (⟨"BottleneckShopModel", "goesOn", "(II)Z"⟩, 25) := ⟨⟨by decide +kernel, by decide +kernel⟩, List.mem_of_getElem? (i := 720) (by decide +kernel), List.mem_of_getElem? (i := 936) (by decide +kernel), List.mem_of_getElem? (i := 937) (by decide +kernel)⟩
theorem lw_p60 : lw_okq (⟨"BottleneckShopModel", "findBest", "()I"⟩, 25) := ⟨⟨by decide +kernel, by decide +kernel⟩, List.mem_of_getElem? (i := 720) (by decide +kernel), List.mem_of_getElem? (i := 944) (by decide +kernel), List.mem_of_getElem? (i := 945) (by decide +kernel)⟩
theorem lw_p61 : lw_okq (⟨"BottleneckShopModel", "keepOrders", "()V"⟩, 25) := ⟨⟨by decide +kernel, by decide +kernel⟩, List.mem_of_getElem? (i := 720) (by decide +kernel), List.mem_of_getElem? (i := 948) (by decide +kernel), List.mem_of_getElem? (i := 949) (by decide +kernel)⟩
theorem lw_p62 : lw_okq (⟨"BottleneckShopModel", "layPlans", "(II)V"⟩, 25) := ⟨⟨by decide +kernel, by decide +kernel⟩, List.mem_of_getElem? (i := 720) (by decide +kernel), List.mem_of_getElem? (i := 952) (by decide +kernel), List.mem_of_getElem? (i := 953) (by decide +kernel)⟩
theorem lw_p63 : lw_okq (⟨"BottleneckShopModel", "nextPlan", "(III)Z"⟩, 25) := ⟨⟨by decide +kernel, by decide +kernel⟩, List.mem_of_getElem? (i := 720) (by decide +kernel), List.mem_of_getElem? (i := 956) (by decide +kernel), List.mem_of_getElem? (i := 957) (by decide +kernel)⟩
def lw_privs_4 : List (MethodName × Nat) := [(⟨"BottleneckShopModel", "beforeOnRoute", "(I)I"⟩, 25), (⟨"BottleneckShopModel", "endOf", "(I)I"⟩, 25), (⟨"BottleneckShopModel", "findTails", "()V"⟩, 25), (⟨"BottleneckShopModel", "behindOnRoute", "(I)I"⟩, 25), (⟨"BottleneckShopModel", "withTail", "(I)I"⟩, 25), (⟨"BottleneckShopModel", "lastEnd", "()I"⟩, 25), (⟨"BottleneckShopModel", "exchange", "(II)V"⟩, 25), (⟨"BottleneckShopModel", "findCritical", "()V"⟩, 25), (⟨"BottleneckShopModel", "isCritical", "(I)Z"⟩, 25), (⟨"BottleneckShopModel", "throughOf", "(I)I"⟩, 25), (⟨"BottleneckShopModel", "placeOf", "(I)I"⟩, 25), (⟨"BottleneckShopModel", "goesOn", "(II)Z"⟩, 25), (⟨"BottleneckShopModel", "findBest", "()I"⟩, 25), (⟨"BottleneckShopModel", "keepOrders", "()V"⟩, 25), (⟨"BottleneckShopModel", "layPlans", "(II)V"⟩, 25), (⟨"BottleneckShopModel", "nextPlan", "(III)Z"⟩, 25)]
theorem lw_r4 : ∀ q ∈ lw_privs_4, lw_okq q := List.forall_mem_cons.mpr ⟨lw_p48, List.forall_mem_cons.mpr ⟨lw_p49, List.forall_mem_cons.mpr ⟨lw_p50, List.forall_mem_cons.mpr ⟨lw_p51, List.forall_mem_cons.mpr ⟨lw_p52, List.forall_mem_cons.mpr ⟨lw_p53, List.forall_mem_cons.mpr ⟨lw_p54, List.forall_mem_cons.mpr ⟨lw_p55, List.forall_mem_cons.mpr ⟨lw_p56, List.forall_mem_cons.mpr ⟨lw_p57, List.forall_mem_cons.mpr ⟨lw_p58, List.forall_mem_cons.mpr ⟨lw_p59, List.forall_mem_cons.mpr ⟨lw_p60, List.forall_mem_cons.mpr ⟨lw_p61, List.forall_mem_cons.mpr ⟨lw_p62, List.forall_mem_cons.mpr ⟨lw_p63, fun _ h => absurd h List.not_mem_nil⟩⟩⟩⟩⟩⟩⟩⟩⟩⟩⟩⟩⟩⟩⟩⟩
theorem lw_p64 : lw_okq (⟨"BottleneckShopModel", "search", "()I"⟩, 25) := ⟨⟨by decide +kernel, by decide +kernel⟩, List.mem_of_getElem? (i := 720) (by decide +kernel), List.mem_of_getElem? (i := 960) (by decide +kernel), List.mem_of_getElem? (i := 961) (by decide +kernel)⟩
theorem lw_p65 : lw_okq (⟨"BottleneckShopModel", "layTried", "(I)V"⟩, 25) := ⟨⟨by decide +kernel, by decide +kernel⟩, List.mem_of_getElem? (i := 720) (by decide +kernel), List.mem_of_getElem? (i := 965) (by decide +kernel), List.mem_of_getElem? (i := 966) (by decide +kernel)⟩
theorem lw_p66 : lw_okq (⟨"BottleneckShopModel", "keepFound", "()V"⟩, 25) := ⟨⟨by decide +kernel, by decide +kernel⟩, List.mem_of_getElem? (i := 720) (by decide +kernel), List.mem_of_getElem? (i := 969) (by decide +kernel), List.mem_of_getElem? (i := 970) (by decide +kernel)⟩
theorem lw_p67 : lw_okq (⟨"BottleneckShopModel", "putOrders", "([I)V"⟩, 25) := ⟨⟨by decide +kernel, by decide +kernel⟩, List.mem_of_getElem? (i := 720) (by decide +kernel), List.mem_of_getElem? (i := 973) (by decide +kernel), List.mem_of_getElem? (i := 974) (by decide +kernel)⟩
theorem lw_p68 : lw_okq (⟨"BottleneckShopModel", "foundAt", "(II)I"⟩, 25) := ⟨⟨by decide +kernel, by decide +kernel⟩, List.mem_of_getElem? (i := 720) (by decide +kernel), List.mem_of_getElem? (i := 981) (by decide +kernel), List.mem_of_getElem? (i := 982) (by decide +kernel)⟩
theorem lw_p69 : lw_okq (⟨"BottleneckShopModel", "layStays", "(IIII)I"⟩, 25) := ⟨⟨by decide +kernel, by decide +kernel⟩, List.mem_of_getElem? (i := 720) (by decide +kernel), List.mem_of_getElem? (i := 989) (by decide +kernel), List.mem_of_getElem? (i := 990) (by decide +kernel)⟩
theorem lw_p70 : lw_okq (⟨"BottleneckShopModel", "placeOnPath", "(I)I"⟩, 25) := ⟨⟨by decide +kernel, by decide +kernel⟩, List.mem_of_getElem? (i := 720) (by decide +kernel), List.mem_of_getElem? (i := 997) (by decide +kernel), List.mem_of_getElem? (i := 998) (by decide +kernel)⟩
theorem lw_p71 : lw_okq (⟨"BottleneckShopModel", "sumOf", "(I)I"⟩, 25) := ⟨⟨by decide +kernel, by decide +kernel⟩, List.mem_of_getElem? (i := 720) (by decide +kernel), List.mem_of_getElem? (i := 1013) (by decide +kernel), List.mem_of_getElem? (i := 1014) (by decide +kernel)⟩
theorem lw_p72 : lw_okq (⟨"BottleneckShopModel", "endOfJob", "(I)I"⟩, 25) := ⟨⟨by decide +kernel, by decide +kernel⟩, List.mem_of_getElem? (i := 720) (by decide +kernel), List.mem_of_getElem? (i := 1017) (by decide +kernel), List.mem_of_getElem? (i := 1018) (by decide +kernel)⟩
theorem lw_p73 : lw_okq (⟨"BottleneckShopModel", "lateness", "(I)I"⟩, 25) := ⟨⟨by decide +kernel, by decide +kernel⟩, List.mem_of_getElem? (i := 720) (by decide +kernel), List.mem_of_getElem? (i := 1021) (by decide +kernel), List.mem_of_getElem? (i := 1022) (by decide +kernel)⟩
theorem lw_p74 : lw_okq (⟨"BottleneckShopModel", "ofPlan", "(I)I"⟩, 25) := ⟨⟨by decide +kernel, by decide +kernel⟩, List.mem_of_getElem? (i := 720) (by decide +kernel), List.mem_of_getElem? (i := 1029) (by decide +kernel), List.mem_of_getElem? (i := 1030) (by decide +kernel)⟩
theorem lw_p75 : lw_okq (⟨"BottleneckShopModel", "blocks", "()I"⟩, 25) := ⟨⟨by decide +kernel, by decide +kernel⟩, List.mem_of_getElem? (i := 720) (by decide +kernel), List.mem_of_getElem? (i := 1033) (by decide +kernel), List.mem_of_getElem? (i := 1034) (by decide +kernel)⟩
theorem lw_p76 : lw_okq (⟨"BottleneckShopModel", "sumOfAll", "(Z)I"⟩, 25) := ⟨⟨by decide +kernel, by decide +kernel⟩, List.mem_of_getElem? (i := 720) (by decide +kernel), List.mem_of_getElem? (i := 1037) (by decide +kernel), List.mem_of_getElem? (i := 1038) (by decide +kernel)⟩
theorem lw_p77 : lw_okq (⟨"BottleneckShopModel", "boundOf", "(I)I"⟩, 25) := ⟨⟨by decide +kernel, by decide +kernel⟩, List.mem_of_getElem? (i := 720) (by decide +kernel), List.mem_of_getElem? (i := 1045) (by decide +kernel), List.mem_of_getElem? (i := 1046) (by decide +kernel)⟩
theorem lw_p78 : lw_okq (⟨"BottleneckShopModel", "workedOn", "(II)I"⟩, 25) := ⟨⟨by decide +kernel, by decide +kernel⟩, List.mem_of_getElem? (i := 720) (by decide +kernel), List.mem_of_getElem? (i := 1049) (by decide +kernel), List.mem_of_getElem? (i := 1050) (by decide +kernel)⟩
theorem lw_p79 : lw_okq (⟨"BottleneckShopModel", "headAlone", "(I)I"⟩, 25) := ⟨⟨by decide +kernel, by decide +kernel⟩, List.mem_of_getElem? (i := 720) (by decide +kernel), List.mem_of_getElem? (i := 1053) (by decide +kernel), List.mem_of_getElem? (i := 1054) (by decide +kernel)⟩
def lw_privs_5 : List (MethodName × Nat) := [(⟨"BottleneckShopModel", "search", "()I"⟩, 25), (⟨"BottleneckShopModel", "layTried", "(I)V"⟩, 25), (⟨"BottleneckShopModel", "keepFound", "()V"⟩, 25), (⟨"BottleneckShopModel", "putOrders", "([I)V"⟩, 25), (⟨"BottleneckShopModel", "foundAt", "(II)I"⟩, 25), (⟨"BottleneckShopModel", "layStays", "(IIII)I"⟩, 25), (⟨"BottleneckShopModel", "placeOnPath", "(I)I"⟩, 25), (⟨"BottleneckShopModel", "sumOf", "(I)I"⟩, 25), (⟨"BottleneckShopModel", "endOfJob", "(I)I"⟩, 25), (⟨"BottleneckShopModel", "lateness", "(I)I"⟩, 25), (⟨"BottleneckShopModel", "ofPlan", "(I)I"⟩, 25), (⟨"BottleneckShopModel", "blocks", "()I"⟩, 25), (⟨"BottleneckShopModel", "sumOfAll", "(Z)I"⟩, 25), (⟨"BottleneckShopModel", "boundOf", "(I)I"⟩, 25), (⟨"BottleneckShopModel", "workedOn", "(II)I"⟩, 25), (⟨"BottleneckShopModel", "headAlone", "(I)I"⟩, 25)]
theorem lw_r5 : ∀ q ∈ lw_privs_5, lw_okq q := List.forall_mem_cons.mpr ⟨lw_p64, List.forall_mem_cons.mpr ⟨lw_p65, List.forall_mem_cons.mpr ⟨lw_p66, List.forall_mem_cons.mpr ⟨lw_p67, List.forall_mem_cons.mpr ⟨lw_p68, List.forall_mem_cons.mpr ⟨lw_p69, List.forall_mem_cons.mpr ⟨lw_p70, List.forall_mem_cons.mpr ⟨lw_p71, List.forall_mem_cons.mpr ⟨lw_p72, List.forall_mem_cons.mpr ⟨lw_p73, List.forall_mem_cons.mpr ⟨lw_p74, List.forall_mem_cons.mpr ⟨lw_p75, List.forall_mem_cons.mpr ⟨lw_p76, List.forall_mem_cons.mpr ⟨lw_p77, List.forall_mem_cons.mpr ⟨lw_p78, List.forall_mem_cons.mpr ⟨lw_p79, fun _ h => absurd h List.not_mem_nil⟩⟩⟩⟩⟩⟩⟩⟩⟩⟩⟩⟩⟩⟩⟩⟩
theorem lw_p80 : lw_okq (⟨"BottleneckShopModel", "tailAlone", "(I)I"⟩, 25) := ⟨⟨by decide +kernel, by decide +kernel⟩, List.mem_of_getElem? (i := 720) (by decide +kernel), List.mem_of_getElem? (i := 1057) (by decide +kernel), List.mem_of_getElem? (i := 1058) (by decide +kernel)⟩
theorem lw_p81 : lw_okq (⟨"BottleneckShopModel", "force", "(I)Z"⟩, 25) := ⟨⟨by decide +kernel, by decide +kernel⟩, List.mem_of_getElem? (i := 720) (by decide +kernel), List.mem_of_getElem? (i := 1065) (by decide +kernel), List.mem_of_getElem? (i := 1066) (by decide +kernel)⟩
theorem lw_p82 : lw_okq (⟨"BottleneckShopModel", "findForced", "()Z"⟩, 25) := ⟨⟨by decide +kernel, by decide +kernel⟩, List.mem_of_getElem? (i := 720) (by decide +kernel), List.mem_of_getElem? (i := 1069) (by decide +kernel), List.mem_of_getElem? (i := 1070) (by decide +kernel)⟩
theorem lw_p83 : lw_okq (⟨"BottleneckShopModel", "headBy", "(I)I"⟩, 25) := ⟨⟨by decide +kernel, by decide +kernel⟩, List.mem_of_getElem? (i := 720) (by decide +kernel), List.mem_of_getElem? (i := 1073) (by decide +kernel), List.mem_of_getElem? (i := 1074) (by decide +kernel)⟩
theorem lw_p84 : lw_okq (⟨"BottleneckShopModel", "isSet", "(II)Z"⟩, 25) := ⟨⟨by decide +kernel, by decide +kernel⟩, List.mem_of_getElem? (i := 720) (by decide +kernel), List.mem_of_getElem? (i := 1077) (by decide +kernel), List.mem_of_getElem? (i := 1078) (by decide +kernel)⟩
theorem lw_p85 : lw_okq (⟨"BottleneckShopModel", "tailBy", "(I)I"⟩, 25) := ⟨⟨by decide +kernel, by decide +kernel⟩, List.mem_of_getElem? (i := 720) (by decide +kernel), List.mem_of_getElem? (i := 1081) (by decide +kernel), List.mem_of_getElem? (i := 1082) (by decide +kernel)⟩
theorem lw_p86 : lw_okq (⟨"BottleneckShopModel", "areTwo", "(II)Z"⟩, 25) := ⟨⟨by decide +kernel, by decide +kernel⟩, List.mem_of_getElem? (i := 720) (by decide +kernel), List.mem_of_getElem? (i := 1085) (by decide +kernel), List.mem_of_getElem? (i := 1086) (by decide +kernel)⟩
theorem lw_p87 : lw_okq (⟨"BottleneckShopModel", "isForcedBoth", "()Z"⟩, 25) := ⟨⟨by decide +kernel, by decide +kernel⟩, List.mem_of_getElem? (i := 720) (by decide +kernel), List.mem_of_getElem? (i := 1089) (by decide +kernel), List.mem_of_getElem? (i := 1090) (by decide +kernel)⟩
theorem lw_p88 : lw_okq (⟨"BottleneckShopModel", "faultOf", "(I)I"⟩, 25) := ⟨⟨by decide +kernel, by decide +kernel⟩, List.mem_of_getElem? (i := 720) (by decide +kernel), List.mem_of_getElem? (i := 1110) (by decide +kernel), List.mem_of_getElem? (i := 1111) (by decide +kernel)⟩
theorem lw_p89 : lw_okq (⟨"BottleneckShopModel", "takePart", "(I)V"⟩, 25) := ⟨⟨by decide +kernel, by decide +kernel⟩, List.mem_of_getElem? (i := 720) (by decide +kernel), List.mem_of_getElem? (i := 1114) (by decide +kernel), List.mem_of_getElem? (i := 1115) (by decide +kernel)⟩
theorem lw_p90 : lw_okq (⟨"BottleneckShopModel", "takeRoute", "()V"⟩, 25) := ⟨⟨by decide +kernel, by decide +kernel⟩, List.mem_of_getElem? (i := 720) (by decide +kernel), List.mem_of_getElem? (i := 1118) (by decide +kernel), List.mem_of_getElem? (i := 1119) (by decide +kernel)⟩
theorem lw_p91 : lw_okq (⟨"BottleneckShopModel", "need", "(I)V"⟩, 25) := ⟨⟨by decide +kernel, by decide +kernel⟩, List.mem_of_getElem? (i := 720) (by decide +kernel), List.mem_of_getElem? (i := 1122) (by decide +kernel), List.mem_of_getElem? (i := 1123) (by decide +kernel)⟩
theorem lw_p92 : lw_okq (⟨"BottleneckShopModel", "next", "()I"⟩, 25) := ⟨⟨by decide +kernel, by decide +kernel⟩, List.mem_of_getElem? (i := 720) (by decide +kernel), List.mem_of_getElem? (i := 1126) (by decide +kernel), List.mem_of_getElem? (i := 1127) (by decide +kernel)⟩
theorem lw_p93 : lw_okq (⟨"BottleneckShopModel", "takeNumber", "(II)I"⟩, 25) := ⟨⟨by decide +kernel, by decide +kernel⟩, List.mem_of_getElem? (i := 720) (by decide +kernel), List.mem_of_getElem? (i := 1130) (by decide +kernel), List.mem_of_getElem? (i := 1131) (by decide +kernel)⟩
theorem lw_p94 : lw_okq (⟨"BottleneckShopModel", "takeDigit", "(I)I"⟩, 25) := ⟨⟨by decide +kernel, by decide +kernel⟩, List.mem_of_getElem? (i := 720) (by decide +kernel), List.mem_of_getElem? (i := 1134) (by decide +kernel), List.mem_of_getElem? (i := 1135) (by decide +kernel)⟩
theorem lw_p95 : lw_okq (⟨"BottleneckShopModel", "takeOrder", "()V"⟩, 25) := ⟨⟨by decide +kernel, by decide +kernel⟩, List.mem_of_getElem? (i := 720) (by decide +kernel), List.mem_of_getElem? (i := 1138) (by decide +kernel), List.mem_of_getElem? (i := 1139) (by decide +kernel)⟩
def lw_privs_6 : List (MethodName × Nat) := [(⟨"BottleneckShopModel", "tailAlone", "(I)I"⟩, 25), (⟨"BottleneckShopModel", "force", "(I)Z"⟩, 25), (⟨"BottleneckShopModel", "findForced", "()Z"⟩, 25), (⟨"BottleneckShopModel", "headBy", "(I)I"⟩, 25), (⟨"BottleneckShopModel", "isSet", "(II)Z"⟩, 25), (⟨"BottleneckShopModel", "tailBy", "(I)I"⟩, 25), (⟨"BottleneckShopModel", "areTwo", "(II)Z"⟩, 25), (⟨"BottleneckShopModel", "isForcedBoth", "()Z"⟩, 25), (⟨"BottleneckShopModel", "faultOf", "(I)I"⟩, 25), (⟨"BottleneckShopModel", "takePart", "(I)V"⟩, 25), (⟨"BottleneckShopModel", "takeRoute", "()V"⟩, 25), (⟨"BottleneckShopModel", "need", "(I)V"⟩, 25), (⟨"BottleneckShopModel", "next", "()I"⟩, 25), (⟨"BottleneckShopModel", "takeNumber", "(II)I"⟩, 25), (⟨"BottleneckShopModel", "takeDigit", "(I)I"⟩, 25), (⟨"BottleneckShopModel", "takeOrder", "()V"⟩, 25)]
theorem lw_r6 : ∀ q ∈ lw_privs_6, lw_okq q := List.forall_mem_cons.mpr ⟨lw_p80, List.forall_mem_cons.mpr ⟨lw_p81, List.forall_mem_cons.mpr ⟨lw_p82, List.forall_mem_cons.mpr ⟨lw_p83, List.forall_mem_cons.mpr ⟨lw_p84, List.forall_mem_cons.mpr ⟨lw_p85, List.forall_mem_cons.mpr ⟨lw_p86, List.forall_mem_cons.mpr ⟨lw_p87, List.forall_mem_cons.mpr ⟨lw_p88, List.forall_mem_cons.mpr ⟨lw_p89, List.forall_mem_cons.mpr ⟨lw_p90, List.forall_mem_cons.mpr ⟨lw_p91, List.forall_mem_cons.mpr ⟨lw_p92, List.forall_mem_cons.mpr ⟨lw_p93, List.forall_mem_cons.mpr ⟨lw_p94, List.forall_mem_cons.mpr ⟨lw_p95, fun _ h => absurd h List.not_mem_nil⟩⟩⟩⟩⟩⟩⟩⟩⟩⟩⟩⟩⟩⟩⟩⟩
theorem lw_p96 : lw_okq (⟨"BottleneckShopModel", "fitsOrder", "(I)Z"⟩, 25) := ⟨⟨by decide +kernel, by decide +kernel⟩, List.mem_of_getElem? (i := 720) (by decide +kernel), List.mem_of_getElem? (i := 1150) (by decide +kernel), List.mem_of_getElem? (i := 1151) (by decide +kernel)⟩
def lw_privs_7 : List (MethodName × Nat) := [(⟨"BottleneckShopModel", "fitsOrder", "(I)Z"⟩, 25)]
theorem lw_r7 : ∀ q ∈ lw_privs_7, lw_okq q := List.forall_mem_cons.mpr ⟨lw_p96, fun _ h => absurd h List.not_mem_nil⟩
def lw_privs : List (MethodName × Nat) := lw_privs_1 ++ (lw_privs_2 ++ (lw_privs_3 ++ (lw_privs_4 ++ (lw_privs_5 ++ (lw_privs_6 ++ (lw_privs_7))))))
def lw_tbl : List Cond := k2_sels lw_privs ++ tables_1
theorem lw_privs_ok : ∀ q ∈ lw_privs, lw_okq q := by
  show ∀ q ∈ lw_privs_1 ++ (lw_privs_2 ++ (lw_privs_3 ++ (lw_privs_4 ++ (lw_privs_5 ++ (lw_privs_6 ++ (lw_privs_7)))))), lw_okq q
  exact List.forall_mem_append.mpr ⟨lw_r1, List.forall_mem_append.mpr ⟨lw_r2, List.forall_mem_append.mpr ⟨lw_r3, List.forall_mem_append.mpr ⟨lw_r4, List.forall_mem_append.mpr ⟨lw_r5, List.forall_mem_append.mpr ⟨lw_r6, lw_r7⟩⟩⟩⟩⟩⟩
end
section
def RX0 : String := "BottleneckShop$History"
def TX0 : u_T := fun k => match k with
  | 0 => ("BottleneckShop$History", "states", "[LBottleneckShop$State;", true)
  | 1 => ("BottleneckShop$History", "recorded", "I", false)
  | _ => ("BottleneckShop$History", "newest", "I", false)
def tyX0 : Nat → FieldType := fun k => match k with
  | 0 => .array (.object "BottleneckShop$State")
  | 1 => .int
  | _ => .int
abbrev wsX00 : List Cond := u_ws RX0 TX0 3
theorem nmX0 : ∀ a, a < 3 → ∀ b, b < 3 → a ≠ b → (TX0 a).2.1 ≠ (TX0 b).2.1 := by decide +kernel
theorem tyX0_ok : ∀ k, k < 3 → parseFieldDescriptor (TX0 k).2.2.1 = some (tyX0 k) := by decide +kernel
abbrev cX0_init : ByteArray := prog_2_method_1_code
def yX0_init : MethodName := ⟨RX0, "<init>", "()V"⟩
abbrev cX0_record : ByteArray := prog_2_method_2_code
def yX0_record : MethodName := ⟨RX0, "record", "(LBottleneckShop$State;)V"⟩
abbrev cX0_takeBack : ByteArray := prog_2_method_3_code
def yX0_takeBack : MethodName := ⟨RX0, "takeBack", "(LBottleneckShop$State;)V"⟩
def RX1 : String := "BottleneckShop$Net"
def TX1 : u_T := fun k => match k with
  | 0 => ("BottleneckShop$Net", "steps", "[I", true)
  | 1 => ("BottleneckShop$Net", "machine", "[I", true)
  | 2 => ("BottleneckShop$Net", "duration", "[I", true)
  | 3 => ("BottleneckShop$Net", "ready", "[I", true)
  | 4 => ("BottleneckShop$Net", "on", "[I", true)
  | 5 => ("BottleneckShop$Net", "ahead", "[I", true)
  | 6 => ("BottleneckShop$Net", "head", "[I", true)
  | 7 => ("BottleneckShop$Net", "tail", "[I", true)
  | 8 => ("BottleneckShop$Net", "longest", "I", false)
  | 9 => ("BottleneckShop$Net", "operations", "I", false)
  | 10 => ("BottleneckShop$Net", "sorted", "[I", true)
  | 11 => ("BottleneckShop$Net", "sortedSize", "I", false)
  | 12 => ("BottleneckShop$Net", "sortedSteps", "[I", true)
  | 13 => ("BottleneckShop$Net", "sortedOn", "[I", true)
  | _ => ("BottleneckShop$Net", "unfinished", "[I", true)
def tyX1 : Nat → FieldType := fun k => match k with
  | 0 => .array .int
  | 1 => .array .int
  | 2 => .array .int
  | 3 => .array .int
  | 4 => .array .int
  | 5 => .array .int
  | 6 => .array .int
  | 7 => .array .int
  | 8 => .int
  | 9 => .int
  | 10 => .array .int
  | 11 => .int
  | 12 => .array .int
  | 13 => .array .int
  | _ => .array .int
abbrev wsX10 : List Cond := u_ws RX1 TX1 15
theorem nmX1 : ∀ a, a < 15 → ∀ b, b < 15 → a ≠ b → (TX1 a).2.1 ≠ (TX1 b).2.1 := by decide +kernel
theorem tyX1_ok : ∀ k, k < 15 → parseFieldDescriptor (TX1 k).2.2.1 = some (tyX1 k) := by decide +kernel
abbrev cX1_init : ByteArray := prog_3_method_1_code
def yX1_init : MethodName := ⟨RX1, "<init>", "()V"⟩
abbrev cX1_load : ByteArray := prog_3_method_2_code
def yX1_load : MethodName := ⟨RX1, "load", "(LBottleneckShop$State;)V"⟩
abbrev cX1_followOrders : ByteArray := prog_3_method_3_code
def yX1_followOrders : MethodName := ⟨RX1, "followOrders", "(LBottleneckShop$State;)V"⟩
abbrev cX1_followOrder : ByteArray := prog_3_method_4_code
def yX1_followOrder : MethodName := ⟨RX1, "followOrder", "(LBottleneckShop$State;II)V"⟩
abbrev cX1_letFirst : ByteArray := prog_3_method_5_code
def yX1_letFirst : MethodName := ⟨RX1, "letFirst", "(III)V"⟩
abbrev cX1_decide : ByteArray := prog_3_method_6_code
def yX1_decide : MethodName := ⟨RX1, "decide", "(II)V"⟩
abbrev cX1_goesAhead : ByteArray := prog_3_method_7_code
def yX1_goesAhead : MethodName := ⟨RX1, "goesAhead", "(II)Z"⟩
abbrev cX1_undecided : ByteArray := prog_3_method_8_code
def yX1_undecided : MethodName := ⟨RX1, "undecided", "(II)Z"⟩
abbrev cX1_wayThrough : ByteArray := prog_3_method_9_code
def yX1_wayThrough : MethodName := ⟨RX1, "wayThrough", "(II)I"⟩
abbrev cX1_jobsOn : ByteArray := prog_3_method_10_code
def yX1_jobsOn : MethodName := ⟨RX1, "jobsOn", "(I)I"⟩
abbrev cX1_holdBack : ByteArray := prog_3_method_11_code
def yX1_holdBack : MethodName := ⟨RX1, "holdBack", "(II)V"⟩
abbrev cX1_endOf : ByteArray := prog_3_method_12_code
def yX1_endOf : MethodName := ⟨RX1, "endOf", "(I)I"⟩
abbrev cX1_slackOf : ByteArray := prog_3_method_13_code
def yX1_slackOf : MethodName := ⟨RX1, "slackOf", "(I)I"⟩
abbrev cX1_decidedPairs : ByteArray := prog_3_method_14_code
def yX1_decidedPairs : MethodName := ⟨RX1, "decidedPairs", "()I"⟩
abbrev cX1_measure : ByteArray := prog_3_method_15_code
def yX1_measure : MethodName := ⟨RX1, "measure", "()Z"⟩
abbrev cX1_sortAlong : ByteArray := prog_3_method_16_code
def yX1_sortAlong : MethodName := ⟨RX1, "sortAlong", "(I)V"⟩
abbrev cX1_headOf : ByteArray := prog_3_method_17_code
def yX1_headOf : MethodName := ⟨RX1, "headOf", "(I)I"⟩
abbrev cX1_tailOf : ByteArray := prog_3_method_18_code
def yX1_tailOf : MethodName := ⟨RX1, "tailOf", "(I)I"⟩
abbrev cX1_keeps : ByteArray := prog_3_method_19_code
def yX1_keeps : MethodName := ⟨RX1, "keeps", "(I)Z"⟩
abbrev cX1_forceOn : ByteArray := prog_3_method_20_code
def yX1_forceOn : MethodName := ⟨RX1, "forceOn", "(II)I"⟩
abbrev cX1_longestPair : ByteArray := prog_3_method_21_code
def yX1_longestPair : MethodName := ⟨RX1, "longestPair", "()I"⟩
abbrev cX1_greatestBound : ByteArray := prog_3_method_22_code
def yX1_greatestBound : MethodName := ⟨RX1, "greatestBound", "()I"⟩
abbrev cX1_boundOf : ByteArray := prog_3_method_23_code
def yX1_boundOf : MethodName := ⟨RX1, "boundOf", "(I)I"⟩
abbrev cX1_nextHead : ByteArray := prog_3_method_24_code
def yX1_nextHead : MethodName := ⟨RX1, "nextHead", "(II)I"⟩
abbrev cX1_mostUrgent : ByteArray := prog_3_method_25_code
def yX1_mostUrgent : MethodName := ⟨RX1, "mostUrgent", "(II)I"⟩
def RX2 : String := "BottleneckShop$Pad"
def TX2 : u_T := fun k => match k with
  | 0 => ("BottleneckShop$Pad", "text", "[C", true)
  | 1 => ("BottleneckShop$Pad", "length", "I", false)
  | 2 => ("BottleneckShop$Pad", "at", "I", false)
  | _ => ("BottleneckShop$Pad", "machinesNamed", "I", false)
def tyX2 : Nat → FieldType := fun k => match k with
  | 0 => .array .char
  | 1 => .int
  | 2 => .int
  | _ => .int
abbrev wsX20 : List Cond := u_ws RX2 TX2 4
theorem nmX2 : ∀ a, a < 4 → ∀ b, b < 4 → a ≠ b → (TX2 a).2.1 ≠ (TX2 b).2.1 := by decide +kernel
theorem tyX2_ok : ∀ k, k < 4 → parseFieldDescriptor (TX2 k).2.2.1 = some (tyX2 k) := by decide +kernel
abbrev cX2_init : ByteArray := prog_4_method_1_code
def yX2_init : MethodName := ⟨RX2, "<init>", "()V"⟩
abbrev cX2_append : ByteArray := prog_4_method_2_code
def yX2_append : MethodName := ⟨RX2, "append", "(C)V"⟩
abbrev cX2_names : ByteArray := prog_4_method_3_code
def yX2_names : MethodName := ⟨RX2, "names", "(I)Z"⟩
abbrev cX2_readRoutes : ByteArray := prog_4_method_4_code
def yX2_readRoutes : MethodName := ⟨RX2, "readRoutes", "(LBottleneckShop$State;)I"⟩
abbrev cX2_readJob : ByteArray := prog_4_method_5_code
def yX2_readJob : MethodName := ⟨RX2, "readJob", "(LBottleneckShop$State;)Z"⟩
abbrev cX2_readOperation : ByteArray := prog_4_method_6_code
def yX2_readOperation : MethodName := ⟨RX2, "readOperation", "(LBottleneckShop$State;I)Z"⟩
abbrev cX2_readPlan : ByteArray := prog_4_method_7_code
def yX2_readPlan : MethodName := ⟨RX2, "readPlan", "(LBottleneckShop$State;)I"⟩
abbrev cX2_readOrder : ByteArray := prog_4_method_8_code
def yX2_readOrder : MethodName := ⟨RX2, "readOrder", "(LBottleneckShop$State;)Z"⟩
abbrev cX2_anotherJobFor : ByteArray := prog_4_method_9_code
def yX2_anotherJobFor : MethodName := ⟨RX2, "anotherJobFor", "(I)Z"⟩
abbrev cX2_take : ByteArray := prog_4_method_10_code
def yX2_take : MethodName := ⟨RX2, "take", "(C)Z"⟩
abbrev cX2_digit : ByteArray := prog_4_method_11_code
def yX2_digit : MethodName := ⟨RX2, "digit", "()I"⟩
abbrev cX2_number : ByteArray := prog_4_method_12_code
def yX2_number : MethodName := ⟨RX2, "number", "(II)I"⟩
def RX3 : String := "BottleneckShop$Path"
def TX3 : u_T := fun k => match k with
  | 0 => ("BottleneckShop$Path", "operations", "[I", true)
  | _ => ("BottleneckShop$Path", "size", "I", false)
def tyX3 : Nat → FieldType := fun k => match k with
  | 0 => .array .int
  | _ => .int
abbrev wsX30 : List Cond := u_ws RX3 TX3 2
theorem nmX3 : ∀ a, a < 2 → ∀ b, b < 2 → a ≠ b → (TX3 a).2.1 ≠ (TX3 b).2.1 := by decide +kernel
theorem tyX3_ok : ∀ k, k < 2 → parseFieldDescriptor (TX3 k).2.2.1 = some (tyX3 k) := by decide +kernel
abbrev cX3_init : ByteArray := prog_5_method_1_code
def yX3_init : MethodName := ⟨RX3, "<init>", "()V"⟩
abbrev cX3_trace : ByteArray := prog_5_method_2_code
def yX3_trace : MethodName := ⟨RX3, "trace", "(LBottleneckShop$Net;LBottleneckShop$State;)V"⟩
abbrev cX3_first : ByteArray := prog_5_method_3_code
def yX3_first : MethodName := ⟨RX3, "first", "(LBottleneckShop$Net;LBottleneckShop$State;)I"⟩
abbrev cX3_next : ByteArray := prog_5_method_4_code
def yX3_next : MethodName := ⟨RX3, "next", "(LBottleneckShop$Net;LBottleneckShop$State;I)I"⟩
abbrev cX3_goesOn : ByteArray := prog_5_method_5_code
def yX3_goesOn : MethodName := ⟨RX3, "goesOn", "(LBottleneckShop$Net;II)Z"⟩
abbrev cX3_placeOf : ByteArray := prog_5_method_6_code
def yX3_placeOf : MethodName := ⟨RX3, "placeOf", "(I)I"⟩
abbrev cX3_blocks : ByteArray := prog_5_method_7_code
def yX3_blocks : MethodName := ⟨RX3, "blocks", "(LBottleneckShop$State;)I"⟩
def RX4 : String := "BottleneckShop$Search"
def TX4 : u_T := fun k => match k with
  | 0 => ("BottleneckShop$Search", "net", "LBottleneckShop$Net;", true)
  | 1 => ("BottleneckShop$Search", "known", "Z", false)
  | 2 => ("BottleneckShop$Search", "least", "I", false)
  | 3 => ("BottleneckShop$Search", "found", "[I", true)
  | 4 => ("BottleneckShop$Search", "settled", "[I", true)
  | 5 => ("BottleneckShop$Search", "tried", "[I", true)
  | 6 => ("BottleneckShop$Search", "witness", "[I", true)
  | _ => ("BottleneckShop$Search", "kept", "[[I", true)
def tyX4 : Nat → FieldType := fun k => match k with
  | 0 => .object "BottleneckShop$Net"
  | 1 => .boolean
  | 2 => .int
  | 3 => .array .int
  | 4 => .array .int
  | 5 => .array .int
  | 6 => .array .int
  | _ => .array (.array .int)
abbrev wsX40 : List Cond := u_ws RX4 TX4 8
theorem nmX4 : ∀ a, a < 8 → ∀ b, b < 8 → a ≠ b → (TX4 a).2.1 ≠ (TX4 b).2.1 := by decide +kernel
theorem tyX4_ok : ∀ k, k < 8 → parseFieldDescriptor (TX4 k).2.2.1 = some (tyX4 k) := by decide +kernel
abbrev cX4_init : ByteArray := prog_6_method_1_code
def yX4_init : MethodName := ⟨RX4, "<init>", "()V"⟩
abbrev cX4_find : ByteArray := prog_6_method_2_code
def yX4_find : MethodName := ⟨RX4, "find", "()V"⟩
abbrev cX4_settle : ByteArray := prog_6_method_3_code
def yX4_settle : MethodName := ⟨RX4, "settle", "(I)I"⟩
abbrev cX4_jobsLeft : ByteArray := prog_6_method_4_code
def yX4_jobsLeft : MethodName := ⟨RX4, "jobsLeft", "(I)I"⟩
abbrev cX4_complete : ByteArray := prog_6_method_5_code
def yX4_complete : MethodName := ⟨RX4, "complete", "(II)Z"⟩
def RX5 : String := "BottleneckShop$State"
def TX5 : u_T := fun k => match k with
  | 0 => ("BottleneckShop$State", "jobs", "I", false)
  | 1 => ("BottleneckShop$State", "release", "[I", true)
  | 2 => ("BottleneckShop$State", "due", "[I", true)
  | 3 => ("BottleneckShop$State", "steps", "[I", true)
  | 4 => ("BottleneckShop$State", "machine", "[I", true)
  | 5 => ("BottleneckShop$State", "duration", "[I", true)
  | 6 => ("BottleneckShop$State", "queued", "[I", true)
  | _ => ("BottleneckShop$State", "queue", "[I", true)
def tyX5 : Nat → FieldType := fun k => match k with
  | 0 => .int
  | 1 => .array .int
  | 2 => .array .int
  | 3 => .array .int
  | 4 => .array .int
  | 5 => .array .int
  | 6 => .array .int
  | _ => .array .int
abbrev wsX50 : List Cond := u_ws RX5 TX5 8
theorem nmX5 : ∀ a, a < 8 → ∀ b, b < 8 → a ≠ b → (TX5 a).2.1 ≠ (TX5 b).2.1 := by decide +kernel
theorem tyX5_ok : ∀ k, k < 8 → parseFieldDescriptor (TX5 k).2.2.1 = some (tyX5 k) := by decide +kernel
abbrev cX5_init : ByteArray := prog_7_method_1_code
def yX5_init : MethodName := ⟨RX5, "<init>", "()V"⟩
abbrev cX5_become : ByteArray := prog_7_method_2_code
def yX5_become : MethodName := ⟨RX5, "become", "(LBottleneckShop$State;)V"⟩
abbrev cX5_clear : ByteArray := prog_7_method_3_code
def yX5_clear : MethodName := ⟨RX5, "clear", "()V"⟩
abbrev cX5_hasJob : ByteArray := prog_7_method_4_code
def yX5_hasJob : MethodName := ⟨RX5, "hasJob", "(I)Z"⟩
abbrev cX5_hasOperation : ByteArray := prog_7_method_5_code
def yX5_hasOperation : MethodName := ⟨RX5, "hasOperation", "(I)Z"⟩
abbrev cX5_hasPlace : ByteArray := prog_7_method_6_code
def yX5_hasPlace : MethodName := ⟨RX5, "hasPlace", "(II)Z"⟩
abbrev cX5_addJob : ByteArray := prog_7_method_7_code
def yX5_addJob : MethodName := ⟨RX5, "addJob", "(II)I"⟩
abbrev cX5_addOperation : ByteArray := prog_7_method_8_code
def yX5_addOperation : MethodName := ⟨RX5, "addOperation", "(III)I"⟩
abbrev cX5_append : ByteArray := prog_7_method_9_code
def yX5_append : MethodName := ⟨RX5, "append", "(II)V"⟩
abbrev cX5_operationOf : ByteArray := prog_7_method_10_code
def yX5_operationOf : MethodName := ⟨RX5, "operationOf", "(II)I"⟩
abbrev cX5_operationAt : ByteArray := prog_7_method_11_code
def yX5_operationAt : MethodName := ⟨RX5, "operationAt", "(II)I"⟩
abbrev cX5_placeOf : ByteArray := prog_7_method_12_code
def yX5_placeOf : MethodName := ⟨RX5, "placeOf", "(I)I"⟩
abbrev cX5_nextOnMachine : ByteArray := prog_7_method_13_code
def yX5_nextOnMachine : MethodName := ⟨RX5, "nextOnMachine", "(I)I"⟩
abbrev cX5_exchange : ByteArray := prog_7_method_14_code
def yX5_exchange : MethodName := ⟨RX5, "exchange", "(II)V"⟩
abbrev cX5_takeOrder : ByteArray := prog_7_method_15_code
def yX5_takeOrder : MethodName := ⟨RX5, "takeOrder", "(LBottleneckShop$State;I)V"⟩
abbrev cX5_jobsInOrder : ByteArray := prog_7_method_16_code
def yX5_jobsInOrder : MethodName := ⟨RX5, "jobsInOrder", "(I)I"⟩
abbrev cX5_work : ByteArray := prog_7_method_17_code
def yX5_work : MethodName := ⟨RX5, "work", "(I)I"⟩
abbrev cX5_allWork : ByteArray := prog_7_method_18_code
def yX5_allWork : MethodName := ⟨RX5, "allWork", "()I"⟩
abbrev cX5_allSteps : ByteArray := prog_7_method_19_code
def yX5_allSteps : MethodName := ⟨RX5, "allSteps", "()I"⟩
def RX6 : String := "BottleneckShop"
def TX6 : u_T := fun k => match k with
  | 0 => ("BottleneckShop", "now", "LBottleneckShop$State;", true)
  | 1 => ("BottleneckShop", "draft", "LBottleneckShop$State;", true)
  | 2 => ("BottleneckShop", "history", "LBottleneckShop$History;", true)
  | 3 => ("BottleneckShop", "slots", "[LBottleneckShop$State;", true)
  | 4 => ("BottleneckShop", "saved", "[Z", true)
  | 5 => ("BottleneckShop", "pad", "LBottleneckShop$Pad;", true)
  | 6 => ("BottleneckShop", "plan", "LBottleneckShop$Net;", true)
  | 7 => ("BottleneckShop", "criticalPath", "LBottleneckShop$Path;", true)
  | 8 => ("BottleneckShop", "planKnown", "Z", false)
  | 9 => ("BottleneckShop", "planPossible", "Z", false)
  | 10 => ("BottleneckShop", "trial", "LBottleneckShop$Net;", true)
  | 11 => ("BottleneckShop", "leastPlan", "LBottleneckShop$Search;", true)
  | 12 => ("BottleneckShop", "repair", "LBottleneckShop$Search;", true)
  | 13 => ("BottleneckShop", "repairMachine", "I", false)
  | 14 => ("BottleneckShop", "repairFrom", "I", false)
  | _ => ("BottleneckShop", "repairUntil", "I", false)
def tyX6 : Nat → FieldType := fun k => match k with
  | 0 => .object "BottleneckShop$State"
  | 1 => .object "BottleneckShop$State"
  | 2 => .object "BottleneckShop$History"
  | 3 => .array (.object "BottleneckShop$State")
  | 4 => .array .boolean
  | 5 => .object "BottleneckShop$Pad"
  | 6 => .object "BottleneckShop$Net"
  | 7 => .object "BottleneckShop$Path"
  | 8 => .boolean
  | 9 => .boolean
  | 10 => .object "BottleneckShop$Net"
  | 11 => .object "BottleneckShop$Search"
  | 12 => .object "BottleneckShop$Search"
  | 13 => .int
  | 14 => .int
  | _ => .int
abbrev wsX60 : List Cond := u_ws RX6 TX6 16
theorem nmX6 : ∀ a, a < 16 → ∀ b, b < 16 → a ≠ b → (TX6 a).2.1 ≠ (TX6 b).2.1 := by decide +kernel
theorem tyX6_ok : ∀ k, k < 16 → parseFieldDescriptor (TX6 k).2.2.1 = some (tyX6 k) := by decide +kernel
abbrev cX6_init : ByteArray := prog_1_method_1_code
def yX6_init : MethodName := ⟨RX6, "<init>", "()V"⟩
abbrev cX6_job : ByteArray := prog_1_method_2_code
def yX6_job : MethodName := ⟨RX6, "job", "(II)I"⟩
abbrev cX6_operation : ByteArray := prog_1_method_3_code
def yX6_operation : MethodName := ⟨RX6, "operation", "(III)I"⟩
abbrev cX6_change : ByteArray := prog_1_method_4_code
def yX6_change : MethodName := ⟨RX6, "change", "(II)I"⟩
abbrev cX6_swap : ByteArray := prog_1_method_5_code
def yX6_swap : MethodName := ⟨RX6, "swap", "(II)I"⟩
abbrev cX6_takeBest : ByteArray := prog_1_method_6_code
def yX6_takeBest : MethodName := ⟨RX6, "takeBest", "()I"⟩
abbrev cX6_improve : ByteArray := prog_1_method_7_code
def yX6_improve : MethodName := ⟨RX6, "improve", "()I"⟩
abbrev cX6_length : ByteArray := prog_1_method_8_code
def yX6_length : MethodName := ⟨RX6, "length", "()I"⟩
abbrev cX6_about : ByteArray := prog_1_method_9_code
def yX6_about : MethodName := ⟨RX6, "about", "(II)I"⟩
abbrev cX6_path : ByteArray := prog_1_method_10_code
def yX6_path : MethodName := ⟨RX6, "path", "(I)I"⟩
abbrev cX6_order : ByteArray := prog_1_method_11_code
def yX6_order : MethodName := ⟨RX6, "order", "(II)I"⟩
abbrev cX6_ofJob : ByteArray := prog_1_method_12_code
def yX6_ofJob : MethodName := ⟨RX6, "ofJob", "(II)I"⟩
abbrev cX6_count : ByteArray := prog_1_method_13_code
def yX6_count : MethodName := ⟨RX6, "count", "(I)I"⟩
abbrev cX6_bound : ByteArray := prog_1_method_14_code
def yX6_bound : MethodName := ⟨RX6, "bound", "(I)I"⟩
abbrev cX6_forced : ByteArray := prog_1_method_15_code
def yX6_forced : MethodName := ⟨RX6, "forced", "(I)I"⟩
abbrev cX6_isForced : ByteArray := prog_1_method_16_code
def yX6_isForced : MethodName := ⟨RX6, "isForced", "(III)I"⟩
abbrev cX6_best : ByteArray := prog_1_method_17_code
def yX6_best : MethodName := ⟨RX6, "best", "(II)I"⟩
abbrev cX6_breakdown : ByteArray := prog_1_method_18_code
def yX6_breakdown : MethodName := ⟨RX6, "breakdown", "(IIII)I"⟩
abbrev cX6_put : ByteArray := prog_1_method_19_code
def yX6_put : MethodName := ⟨RX6, "put", "(J)I"⟩
abbrev cX6_wipe : ByteArray := prog_1_method_20_code
def yX6_wipe : MethodName := ⟨RX6, "wipe", "()I"⟩
abbrev cX6_fault : ByteArray := prog_1_method_21_code
def yX6_fault : MethodName := ⟨RX6, "fault", "(I)I"⟩
abbrev cX6_loadRoutes : ByteArray := prog_1_method_22_code
def yX6_loadRoutes : MethodName := ⟨RX6, "loadRoutes", "()I"⟩
abbrev cX6_loadPlan : ByteArray := prog_1_method_23_code
def yX6_loadPlan : MethodName := ⟨RX6, "loadPlan", "()I"⟩
abbrev cX6_undo : ByteArray := prog_1_method_24_code
def yX6_undo : MethodName := ⟨RX6, "undo", "()I"⟩
abbrev cX6_save : ByteArray := prog_1_method_25_code
def yX6_save : MethodName := ⟨RX6, "save", "(I)I"⟩
abbrev cX6_restore : ByteArray := prog_1_method_26_code
def yX6_restore : MethodName := ⟨RX6, "restore", "(I)I"⟩
abbrev cX6_within : ByteArray := prog_1_method_27_code
def yX6_within : MethodName := ⟨RX6, "within", "(III)Z"⟩
abbrev cX6_isMachine : ByteArray := prog_1_method_28_code
def yX6_isMachine : MethodName := ⟨RX6, "isMachine", "(I)Z"⟩
abbrev cX6_copyRow : ByteArray := prog_1_method_29_code
def yX6_copyRow : MethodName := ⟨RX6, "copyRow", "([I[I)V"⟩
abbrev cX6_record : ByteArray := prog_1_method_30_code
def yX6_record : MethodName := ⟨RX6, "record", "()V"⟩
abbrev cX6_forgetAnswers : ByteArray := prog_1_method_31_code
def yX6_forgetAnswers : MethodName := ⟨RX6, "forgetAnswers", "()V"⟩
abbrev cX6_knowPlan : ByteArray := prog_1_method_32_code
def yX6_knowPlan : MethodName := ⟨RX6, "knowPlan", "()Z"⟩
abbrev cX6_takeBreakdown : ByteArray := prog_1_method_33_code
def yX6_takeBreakdown : MethodName := ⟨RX6, "takeBreakdown", "(III)V"⟩
abbrev cX6_stays : ByteArray := prog_1_method_34_code
def yX6_stays : MethodName := ⟨RX6, "stays", "(III)Z"⟩
abbrev cX6_lengthBehindNext : ByteArray := prog_1_method_35_code
def yX6_lengthBehindNext : MethodName := ⟨RX6, "lengthBehindNext", "(I)I"⟩
abbrev cX6_timeAbout : ByteArray := prog_1_method_36_code
def yX6_timeAbout : MethodName := ⟨RX6, "timeAbout", "(II)I"⟩
abbrev cX6_numberOfPlan : ByteArray := prog_1_method_37_code
def yX6_numberOfPlan : MethodName := ⟨RX6, "numberOfPlan", "(I)I"⟩
abbrev cX6_endOfJob : ByteArray := prog_1_method_38_code
def yX6_endOfJob : MethodName := ⟨RX6, "endOfJob", "(I)I"⟩
abbrev cX6_lateness : ByteArray := prog_1_method_39_code
def yX6_lateness : MethodName := ⟨RX6, "lateness", "(I)I"⟩
abbrev cX6_sumOfLateness : ByteArray := prog_1_method_40_code
def yX6_sumOfLateness : MethodName := ⟨RX6, "sumOfLateness", "()I"⟩
abbrev cX6_greatestLateness : ByteArray := prog_1_method_41_code
def yX6_greatestLateness : MethodName := ⟨RX6, "greatestLateness", "()I"⟩
abbrev cX6_signsIn : ByteArray := prog_1_method_42_code
def yX6_signsIn : MethodName := ⟨RX6, "signsIn", "(J)I"⟩
def RX7 : String := "BottleneckShopModel"
def TX7 : u_T := fun k => match k with
  | 0 => ("BottleneckShopModel", "at", "[I", true)
  | 1 => ("BottleneckShopModel", "past", "[I", true)
  | 2 => ("BottleneckShopModel", "pastMany", "I", false)
  | 3 => ("BottleneckShopModel", "slots", "[I", true)
  | 4 => ("BottleneckShopModel", "isSaved", "[Z", true)
  | 5 => ("BottleneckShopModel", "pad", "[I", true)
  | 6 => ("BottleneckShopModel", "padMany", "I", false)
  | 7 => ("BottleneckShopModel", "earliest", "[I", true)
  | 8 => ("BottleneckShopModel", "stays", "[Z", true)
  | 9 => ("BottleneckShopModel", "heads", "[I", true)
  | 10 => ("BottleneckShopModel", "tails", "[I", true)
  | 11 => ("BottleneckShopModel", "critical", "[I", true)
  | 12 => ("BottleneckShopModel", "criticalMany", "I", false)
  | 13 => ("BottleneckShopModel", "plans", "[I", true)
  | 14 => ("BottleneckShopModel", "planMany", "[I", true)
  | 15 => ("BottleneckShopModel", "tried", "[I", true)
  | 16 => ("BottleneckShopModel", "found", "[I", true)
  | 17 => ("BottleneckShopModel", "had", "[I", true)
  | 18 => ("BottleneckShopModel", "left", "[I", true)
  | 19 => ("BottleneckShopModel", "forcedAhead", "[I", true)
  | 20 => ("BottleneckShopModel", "spot", "I", false)
  | 21 => ("BottleneckShopModel", "isWrong", "Z", false)
  | 22 => ("BottleneckShopModel", "read", "[I", true)
  | 23 => ("BottleneckShopModel", "readMany", "I", false)
  | _ => ("BottleneckShopModel", "ordered", "I", false)
def tyX7 : Nat → FieldType := fun k => match k with
  | 0 => .array .int
  | 1 => .array .int
  | 2 => .int
  | 3 => .array .int
  | 4 => .array .boolean
  | 5 => .array .int
  | 6 => .int
  | 7 => .array .int
  | 8 => .array .boolean
  | 9 => .array .int
  | 10 => .array .int
  | 11 => .array .int
  | 12 => .int
  | 13 => .array .int
  | 14 => .array .int
  | 15 => .array .int
  | 16 => .array .int
  | 17 => .array .int
  | 18 => .array .int
  | 19 => .array .int
  | 20 => .int
  | 21 => .boolean
  | 22 => .array .int
  | 23 => .int
  | _ => .int
abbrev wsX70 : List Cond := u_ws RX7 TX7 25
theorem nmX7 : ∀ a, a < 25 → ∀ b, b < 25 → a ≠ b → (TX7 a).2.1 ≠ (TX7 b).2.1 := by decide +kernel
theorem tyX7_ok : ∀ k, k < 25 → parseFieldDescriptor (TX7 k).2.2.1 = some (tyX7 k) := by decide +kernel
abbrev cX7_init : ByteArray := prog_9_method_1_code
def yX7_init : MethodName := ⟨RX7, "<init>", "()V"⟩
abbrev cX7_in : ByteArray := prog_9_method_3_code
def yX7_in : MethodName := ⟨RX7, "in", "(III)Z"⟩
abbrev cX7_greater : ByteArray := prog_9_method_4_code
def yX7_greater : MethodName := ⟨RX7, "greater", "(II)I"⟩
abbrev cX7_ofAJob : ByteArray := prog_9_method_5_code
def yX7_ofAJob : MethodName := ⟨RX7, "ofAJob", "(II)I"⟩
abbrev cX7_isJob : ByteArray := prog_9_method_6_code
def yX7_isJob : MethodName := ⟨RX7, "isJob", "(I)Z"⟩
abbrev cX7_isOperation : ByteArray := prog_9_method_7_code
def yX7_isOperation : MethodName := ⟨RX7, "isOperation", "(I)Z"⟩
abbrev cX7_machineOf : ByteArray := prog_9_method_8_code
def yX7_machineOf : MethodName := ⟨RX7, "machineOf", "(I)I"⟩
abbrev cX7_lasts : ByteArray := prog_9_method_9_code
def yX7_lasts : MethodName := ⟨RX7, "lasts", "(I)I"⟩
abbrev cX7_jobAt : ByteArray := prog_9_method_10_code
def yX7_jobAt : MethodName := ⟨RX7, "jobAt", "(II)I"⟩
abbrev cX7_operationOn : ByteArray := prog_9_method_11_code
def yX7_operationOn : MethodName := ⟨RX7, "operationOn", "(II)I"⟩
abbrev cX7_operationAt : ByteArray := prog_9_method_12_code
def yX7_operationAt : MethodName := ⟨RX7, "operationAt", "(II)I"⟩
abbrev cX7_placeOf : ByteArray := prog_9_method_13_code
def yX7_placeOf : MethodName := ⟨RX7, "placeOf", "(I)I"⟩
abbrev cX7_beforeOnRoute : ByteArray := prog_9_method_14_code
def yX7_beforeOnRoute : MethodName := ⟨RX7, "beforeOnRoute", "(I)I"⟩
abbrev cX7_behindOnRoute : ByteArray := prog_9_method_15_code
def yX7_behindOnRoute : MethodName := ⟨RX7, "behindOnRoute", "(I)I"⟩
abbrev cX7_keep : ByteArray := prog_9_method_16_code
def yX7_keep : MethodName := ⟨RX7, "keep", "()V"⟩
abbrev cX7_addJob : ByteArray := prog_9_method_17_code
def yX7_addJob : MethodName := ⟨RX7, "addJob", "(II)V"⟩
abbrev cX7_job : ByteArray := prog_9_method_18_code
def yX7_job : MethodName := ⟨RX7, "job", "(II)I"⟩
abbrev cX7_addOperation : ByteArray := prog_9_method_19_code
def yX7_addOperation : MethodName := ⟨RX7, "addOperation", "(III)I"⟩
abbrev cX7_operation : ByteArray := prog_9_method_20_code
def yX7_operation : MethodName := ⟨RX7, "operation", "(III)I"⟩
abbrev cX7_change : ByteArray := prog_9_method_21_code
def yX7_change : MethodName := ⟨RX7, "change", "(II)I"⟩
abbrev cX7_nothingStays : ByteArray := prog_9_method_22_code
def yX7_nothingStays : MethodName := ⟨RX7, "nothingStays", "()V"⟩
abbrev cX7_endOf : ByteArray := prog_9_method_23_code
def yX7_endOf : MethodName := ⟨RX7, "endOf", "(I)I"⟩
abbrev cX7_raiseHead : ByteArray := prog_9_method_24_code
def yX7_raiseHead : MethodName := ⟨RX7, "raiseHead", "(II)Z"⟩
abbrev cX7_findHeads : ByteArray := prog_9_method_25_code
def yX7_findHeads : MethodName := ⟨RX7, "findHeads", "(I)Z"⟩
abbrev cX7_findTails : ByteArray := prog_9_method_26_code
def yX7_findTails : MethodName := ⟨RX7, "findTails", "()V"⟩
abbrev cX7_withTail : ByteArray := prog_9_method_27_code
def yX7_withTail : MethodName := ⟨RX7, "withTail", "(I)I"⟩
abbrev cX7_find : ByteArray := prog_9_method_28_code
def yX7_find : MethodName := ⟨RX7, "find", "()Z"⟩
abbrev cX7_lastEnd : ByteArray := prog_9_method_29_code
def yX7_lastEnd : MethodName := ⟨RX7, "lastEnd", "()I"⟩
abbrev cX7_throughOf : ByteArray := prog_9_method_30_code
def yX7_throughOf : MethodName := ⟨RX7, "throughOf", "(I)I"⟩
abbrev cX7_length : ByteArray := prog_9_method_31_code
def yX7_length : MethodName := ⟨RX7, "length", "()I"⟩
abbrev cX7_isCritical : ByteArray := prog_9_method_32_code
def yX7_isCritical : MethodName := ⟨RX7, "isCritical", "(I)Z"⟩
abbrev cX7_goesOn : ByteArray := prog_9_method_33_code
def yX7_goesOn : MethodName := ⟨RX7, "goesOn", "(II)Z"⟩
abbrev cX7_findCritical : ByteArray := prog_9_method_34_code
def yX7_findCritical : MethodName := ⟨RX7, "findCritical", "()V"⟩
abbrev cX7_placeOnPath : ByteArray := prog_9_method_35_code
def yX7_placeOnPath : MethodName := ⟨RX7, "placeOnPath", "(I)I"⟩
abbrev cX7_blocks : ByteArray := prog_9_method_36_code
def yX7_blocks : MethodName := ⟨RX7, "blocks", "()I"⟩
abbrev cX7_exchange : ByteArray := prog_9_method_37_code
def yX7_exchange : MethodName := ⟨RX7, "exchange", "(II)V"⟩
abbrev cX7_swap : ByteArray := prog_9_method_38_code
def yX7_swap : MethodName := ⟨RX7, "swap", "(II)I"⟩
abbrev cX7_improve : ByteArray := prog_9_method_39_code
def yX7_improve : MethodName := ⟨RX7, "improve", "()I"⟩
abbrev cX7_layPlans : ByteArray := prog_9_method_40_code
def yX7_layPlans : MethodName := ⟨RX7, "layPlans", "(II)V"⟩
abbrev cX7_nextPlan : ByteArray := prog_9_method_41_code
def yX7_nextPlan : MethodName := ⟨RX7, "nextPlan", "(III)Z"⟩
abbrev cX7_layTried : ByteArray := prog_9_method_42_code
def yX7_layTried : MethodName := ⟨RX7, "layTried", "(I)V"⟩
abbrev cX7_search : ByteArray := prog_9_method_43_code
def yX7_search : MethodName := ⟨RX7, "search", "()I"⟩
abbrev cX7_keepFound : ByteArray := prog_9_method_44_code
def yX7_keepFound : MethodName := ⟨RX7, "keepFound", "()V"⟩
abbrev cX7_putOrders : ByteArray := prog_9_method_45_code
def yX7_putOrders : MethodName := ⟨RX7, "putOrders", "([I)V"⟩
abbrev cX7_keepOrders : ByteArray := prog_9_method_46_code
def yX7_keepOrders : MethodName := ⟨RX7, "keepOrders", "()V"⟩
abbrev cX7_findBest : ByteArray := prog_9_method_47_code
def yX7_findBest : MethodName := ⟨RX7, "findBest", "()I"⟩
abbrev cX7_takeBest : ByteArray := prog_9_method_48_code
def yX7_takeBest : MethodName := ⟨RX7, "takeBest", "()I"⟩
abbrev cX7_foundAt : ByteArray := prog_9_method_49_code
def yX7_foundAt : MethodName := ⟨RX7, "foundAt", "(II)I"⟩
abbrev cX7_best : ByteArray := prog_9_method_50_code
def yX7_best : MethodName := ⟨RX7, "best", "(II)I"⟩
abbrev cX7_layStays : ByteArray := prog_9_method_51_code
def yX7_layStays : MethodName := ⟨RX7, "layStays", "(IIII)I"⟩
abbrev cX7_breakdown : ByteArray := prog_9_method_52_code
def yX7_breakdown : MethodName := ⟨RX7, "breakdown", "(IIII)I"⟩
abbrev cX7_about : ByteArray := prog_9_method_53_code
def yX7_about : MethodName := ⟨RX7, "about", "(II)I"⟩
abbrev cX7_path : ByteArray := prog_9_method_54_code
def yX7_path : MethodName := ⟨RX7, "path", "(I)I"⟩
abbrev cX7_order : ByteArray := prog_9_method_55_code
def yX7_order : MethodName := ⟨RX7, "order", "(II)I"⟩
abbrev cX7_sumOf : ByteArray := prog_9_method_56_code
def yX7_sumOf : MethodName := ⟨RX7, "sumOf", "(I)I"⟩
abbrev cX7_endOfJob : ByteArray := prog_9_method_57_code
def yX7_endOfJob : MethodName := ⟨RX7, "endOfJob", "(I)I"⟩
abbrev cX7_lateness : ByteArray := prog_9_method_58_code
def yX7_lateness : MethodName := ⟨RX7, "lateness", "(I)I"⟩
abbrev cX7_ofJob : ByteArray := prog_9_method_59_code
def yX7_ofJob : MethodName := ⟨RX7, "ofJob", "(II)I"⟩
abbrev cX7_ofPlan : ByteArray := prog_9_method_60_code
def yX7_ofPlan : MethodName := ⟨RX7, "ofPlan", "(I)I"⟩
abbrev cX7_sumOfAll : ByteArray := prog_9_method_61_code
def yX7_sumOfAll : MethodName := ⟨RX7, "sumOfAll", "(Z)I"⟩
abbrev cX7_count : ByteArray := prog_9_method_62_code
def yX7_count : MethodName := ⟨RX7, "count", "(I)I"⟩
abbrev cX7_headAlone : ByteArray := prog_9_method_63_code
def yX7_headAlone : MethodName := ⟨RX7, "headAlone", "(I)I"⟩
abbrev cX7_tailAlone : ByteArray := prog_9_method_64_code
def yX7_tailAlone : MethodName := ⟨RX7, "tailAlone", "(I)I"⟩
abbrev cX7_workedOn : ByteArray := prog_9_method_65_code
def yX7_workedOn : MethodName := ⟨RX7, "workedOn", "(II)I"⟩
abbrev cX7_boundOf : ByteArray := prog_9_method_66_code
def yX7_boundOf : MethodName := ⟨RX7, "boundOf", "(I)I"⟩
abbrev cX7_bound : ByteArray := prog_9_method_67_code
def yX7_bound : MethodName := ⟨RX7, "bound", "(I)I"⟩
abbrev cX7_isSet : ByteArray := prog_9_method_68_code
def yX7_isSet : MethodName := ⟨RX7, "isSet", "(II)Z"⟩
abbrev cX7_headBy : ByteArray := prog_9_method_69_code
def yX7_headBy : MethodName := ⟨RX7, "headBy", "(I)I"⟩
abbrev cX7_tailBy : ByteArray := prog_9_method_70_code
def yX7_tailBy : MethodName := ⟨RX7, "tailBy", "(I)I"⟩
abbrev cX7_findForced : ByteArray := prog_9_method_71_code
def yX7_findForced : MethodName := ⟨RX7, "findForced", "()Z"⟩
abbrev cX7_areTwo : ByteArray := prog_9_method_72_code
def yX7_areTwo : MethodName := ⟨RX7, "areTwo", "(II)Z"⟩
abbrev cX7_force : ByteArray := prog_9_method_73_code
def yX7_force : MethodName := ⟨RX7, "force", "(I)Z"⟩
abbrev cX7_isForcedBoth : ByteArray := prog_9_method_74_code
def yX7_isForcedBoth : MethodName := ⟨RX7, "isForcedBoth", "()Z"⟩
abbrev cX7_forced : ByteArray := prog_9_method_75_code
def yX7_forced : MethodName := ⟨RX7, "forced", "(I)I"⟩
abbrev cX7_isForced : ByteArray := prog_9_method_76_code
def yX7_isForced : MethodName := ⟨RX7, "isForced", "(III)I"⟩
abbrev cX7_put : ByteArray := prog_9_method_77_code
def yX7_put : MethodName := ⟨RX7, "put", "(J)I"⟩
abbrev cX7_wipe : ByteArray := prog_9_method_78_code
def yX7_wipe : MethodName := ⟨RX7, "wipe", "()I"⟩
abbrev cX7_next : ByteArray := prog_9_method_79_code
def yX7_next : MethodName := ⟨RX7, "next", "()I"⟩
abbrev cX7_takeNumber : ByteArray := prog_9_method_80_code
def yX7_takeNumber : MethodName := ⟨RX7, "takeNumber", "(II)I"⟩
abbrev cX7_need : ByteArray := prog_9_method_81_code
def yX7_need : MethodName := ⟨RX7, "need", "(I)V"⟩
abbrev cX7_takeDigit : ByteArray := prog_9_method_82_code
def yX7_takeDigit : MethodName := ⟨RX7, "takeDigit", "(I)I"⟩
abbrev cX7_takeRoute : ByteArray := prog_9_method_83_code
def yX7_takeRoute : MethodName := ⟨RX7, "takeRoute", "()V"⟩
abbrev cX7_takeOrder : ByteArray := prog_9_method_84_code
def yX7_takeOrder : MethodName := ⟨RX7, "takeOrder", "()V"⟩
abbrev cX7_takePart : ByteArray := prog_9_method_85_code
def yX7_takePart : MethodName := ⟨RX7, "takePart", "(I)V"⟩
abbrev cX7_faultOf : ByteArray := prog_9_method_86_code
def yX7_faultOf : MethodName := ⟨RX7, "faultOf", "(I)I"⟩
abbrev cX7_fault : ByteArray := prog_9_method_87_code
def yX7_fault : MethodName := ⟨RX7, "fault", "(I)I"⟩
abbrev cX7_loadRoutes : ByteArray := prog_9_method_88_code
def yX7_loadRoutes : MethodName := ⟨RX7, "loadRoutes", "()I"⟩
abbrev cX7_fitsOrder : ByteArray := prog_9_method_89_code
def yX7_fitsOrder : MethodName := ⟨RX7, "fitsOrder", "(I)Z"⟩
abbrev cX7_loadPlan : ByteArray := prog_9_method_90_code
def yX7_loadPlan : MethodName := ⟨RX7, "loadPlan", "()I"⟩
abbrev cX7_undo : ByteArray := prog_9_method_91_code
def yX7_undo : MethodName := ⟨RX7, "undo", "()I"⟩
abbrev cX7_save : ByteArray := prog_9_method_92_code
def yX7_save : MethodName := ⟨RX7, "save", "(I)I"⟩
abbrev cX7_restore : ByteArray := prog_9_method_93_code
def yX7_restore : MethodName := ⟨RX7, "restore", "(I)I"⟩
def RL : String := "BottleneckShopLaw"
abbrev cL_law : ByteArray := code
end
section
/-! numbers -/
def inR (x : Int) : Prop := -2147483648 ≤ x ∧ x ≤ 2147483647
theorem oI {x : Int} (h : inR x) : (Int32.ofInt x).toInt = x := by
  obtain ⟨h1, h2⟩ := h
  rw [Int32.toInt_ofInt]
  rw [show Int32.size = 4294967296 from rfl, Int.bmod_def]
  omega
theorem oT (x : Int32) : Int32.ofInt x.toInt = x := Int32.ofInt_toInt x
theorem inR_t (x : Int32) : inR x.toInt := by
  have h1 := Int32.le_toInt x
  have h2 := Int32.toInt_lt x
  constructor <;> omega
theorem oAdd (a b : Int) : Int32.ofInt a + Int32.ofInt b = Int32.ofInt (a + b) := (Int32.ofInt_add a b).symm
theorem oSub (a b : Int) : Int32.ofInt a - Int32.ofInt b = Int32.ofInt (a - b) := (Int32.ofInt_sub a b).symm
theorem oMul (a b : Int) : Int32.ofInt a * Int32.ofInt b = Int32.ofInt (a * b) := (Int32.ofInt_mul a b).symm
theorem oNat (n : Nat) : Int32.ofInt (n : Int) = nI n := rfl
theorem oNonneg {x : Int} (h : 0 ≤ x) (h2 : x ≤ 2147483647) : ∃ n : Nat, n < 2 ^ 31 ∧ x = (n : Int) := ⟨x.toNat, by omega, by omega⟩
theorem oClamp {x : Int} (h : 0 ≤ x) (h2 : x ≤ 2147483647) : (Int32.ofInt x).toNatClampNeg = x.toNat := by
  obtain ⟨n, hn, rfl⟩ := oNonneg h h2
  rw [oNat, nI_clamp hn]
  omega
theorem oLt {a b : Int} (ha : inR a) (hb : inR b) : Int32.ofInt a < Int32.ofInt b ↔ a < b := by
  rw [Int32.lt_iff_toInt_lt, oI ha, oI hb]
theorem oLe {a b : Int} (ha : inR a) (hb : inR b) : Int32.ofInt a ≤ Int32.ofInt b ↔ a ≤ b := by
  rw [Int32.le_iff_toInt_le, oI ha, oI hb]
theorem oEq {a b : Int} (ha : inR a) (hb : inR b) : Int32.ofInt a = Int32.ofInt b ↔ a = b := by
  constructor
  · intro h
    have := congrArg Int32.toInt h
    rwa [oI ha, oI hb] at this
  · intro h; rw [h]
theorem oZero : Int32.ofInt 0 = 0 := rfl
theorem inR0 : inR 0 := by constructor <;> omega
theorem oDiv {a b : Int} (ha : 0 ≤ a) (hb : 0 < b) (ra : inR a) (rb : inR b) : Int32.ofInt a / Int32.ofInt b = Int32.ofInt (a / b) := by
  obtain ⟨n, hn, rfl⟩ := oNonneg ha ra.2
  obtain ⟨k, hk, rfl⟩ := oNonneg (by omega : 0 ≤ b) rb.2
  rw [oNat, oNat, pk_div hn (by omega) hk, ← oNat]
  rfl
theorem oRem {a b : Int} (ha : 0 ≤ a) (hb : 0 < b) (ra : inR a) (rb : inR b) : Int32.ofInt a - Int32.ofInt a / Int32.ofInt b * Int32.ofInt b = Int32.ofInt (a % b) := by
  obtain ⟨n, hn, rfl⟩ := oNonneg ha ra.2
  obtain ⟨k, hk, rfl⟩ := oNonneg (by omega : 0 ≤ b) rb.2
  rw [oNat, oNat, pk_rem hn (by omega) hk, ← oNat]
  rfl
theorem vp_inO {x : Int} {n : Nat} (h : 0 ≤ x) (h2 : x < n) (hn : n < 2 ^ 31) : vp_in (Int32.ofInt x) n := by
  obtain ⟨k, hk, rfl⟩ := oNonneg h (by omega)
  exact vp_in_nI (by omega) hn
/-! bit operations on numbers, by the machine's own -/
-- (all of them one chosen function, so that no check of a step looks into them or compares them)
theorem bop_ex : ∃ f : Nat → Int → Int → Int, (∀ a b, f 0 a b = (Int32.ofInt a &&& Int32.ofInt b).toInt) ∧ (∀ a b, f 1 a b = (Int32.ofInt a ||| Int32.ofInt b).toInt) ∧ (∀ a b, f 2 a b = (Int32.ofInt a ^^^ Int32.ofInt b).toInt) ∧ (∀ a b, f 3 a b = (Int32.ofInt a <<< (Int32.ofInt b &&& 31)).toInt) ∧ (∀ a b, f 4 a b = (Int32.ofInt a >>> (Int32.ofInt b &&& 31)).toInt) ∧ (∀ a b, f 5 a b = ((Int32.ofInt a).toUInt32 % 65536).toInt32.toInt) :=
  ⟨fun n a b => match n with | 0 => (Int32.ofInt a &&& Int32.ofInt b).toInt | 1 => (Int32.ofInt a ||| Int32.ofInt b).toInt | 2 => (Int32.ofInt a ^^^ Int32.ofInt b).toInt | 3 => (Int32.ofInt a <<< (Int32.ofInt b &&& 31)).toInt | 4 => (Int32.ofInt a >>> (Int32.ofInt b &&& 31)).toInt | _ => ((Int32.ofInt a).toUInt32 % 65536).toInt32.toInt, fun _ _ => rfl, fun _ _ => rfl, fun _ _ => rfl, fun _ _ => rfl, fun _ _ => rfl, fun _ _ => rfl⟩
noncomputable def bop : Nat → Int → Int → Int := Classical.choose bop_ex
noncomputable def band (a b : Int) : Int := bop 0 a b
theorem band_eq (a b : Int) : band a b = (Int32.ofInt a &&& Int32.ofInt b).toInt := (Classical.choose_spec bop_ex).1 a b
noncomputable def bor (a b : Int) : Int := bop 1 a b
theorem bor_eq (a b : Int) : bor a b = (Int32.ofInt a ||| Int32.ofInt b).toInt := (Classical.choose_spec bop_ex).2.1 a b
noncomputable def bxor (a b : Int) : Int := bop 2 a b
theorem bxor_eq (a b : Int) : bxor a b = (Int32.ofInt a ^^^ Int32.ofInt b).toInt := (Classical.choose_spec bop_ex).2.2.1 a b
noncomputable def bshl (a b : Int) : Int := bop 3 a b
theorem bshl_eq (a b : Int) : bshl a b = (Int32.ofInt a <<< (Int32.ofInt b &&& 31)).toInt := (Classical.choose_spec bop_ex).2.2.2.1 a b
noncomputable def bshr (a b : Int) : Int := bop 4 a b
theorem bshr_eq (a b : Int) : bshr a b = (Int32.ofInt a >>> (Int32.ofInt b &&& 31)).toInt := (Classical.choose_spec bop_ex).2.2.2.2.1 a b
noncomputable def bchr (a : Int) : Int := bop 5 a 0
theorem bchr_eq (a : Int) : bchr a = ((Int32.ofInt a).toUInt32 % 65536).toInt32.toInt := (Classical.choose_spec bop_ex).2.2.2.2.2 a 0
/-! values and memory -/
abbrev AV : Type := Int ⊕ ((Nat × Nat) ⊕ Int64)
abbrev LL : Type := List (Option AV)
abbrev Mem : Type := Nat → Nat → Int → Int
abbrev Tr : Type := List AV → Mem → (Option Int → Mem → Prop) → Prop
def vV (ad : Nat → Nat → Nat) : AV → Value
  | .inl x => .int (Int32.ofInt x)
  | .inr (.inl c) => .ref (ad c.1 c.2)
  | .inr (.inr x) => .long x
def up (σ : Mem) (t i : Nat) (j v : Int) : Mem := fun t' i' j' => if t' = t ∧ i' = i ∧ j' = j then v else σ t' i' j'
/-! the layout: kinds of cells, how many of each, what they are made of -/
def cntL : List Nat := [1,4,1,1,2,10,1,1, 10,10,10,10,10,10,10, 4,4,4,4,4,4,4,4,4,4,4,4, 2,2,2,2,2, 50, 1,1,1,1,1, 1,1,1,1,1,1,1,1,1,1,1,1,1,1,1,1,1,1]
def cnt (t : Nat) : Nat := cntL.getD t 0
def akL : List (Nat × Nat) := [(0,4),(0,4),(0,4),(0,16),(0,16),(0,4),(0,16), (0,4),(0,16),(0,16),(0,16),(0,16),(0,16),(0,16),(0,16),(0,16),(0,4),(0,4),(0,4), (0,16),(0,16),(0,16),(0,16),(4,25), (0,16), (3,6),(3,2),(2,2),(1,80),(0,16), (0,65),(0,390),(0,130),(2,2),(0,80),(0,16),(2,16),(0,16),(0,16),(0,16),(0,384),(0,4),(0,4),(0,16),(0,16),(0,16),(0,16),(0,60)]
def ak (t : Nat) : Option (Nat × Nat) := if t < 8 then none else akL[t - 8]?
def fN (t : Nat) : Nat := [3,15,4,2,8,8,16,25].getD t 0
def fpL : List (List (Option (Nat × Nat))) := [
  [some (33,0), none, none],
  [some (15,0), some (16,0), some (17,0), some (18,0), some (19,0), some (20,0), some (21,0), some (22,0), none, none, some (23,0), none, some (24,0), some (25,0), some (26,0)],
  [some (36,0), none, none, none],
  [some (37,0), none],
  [some (1,2), none, none, some (27,0), some (28,0), some (29,0), some (30,0), some (31,0)],
  [none, some (8,0), some (9,0), some (10,0), some (11,0), some (12,0), some (13,0), some (14,0)],
  [some (5,0), some (5,1), some (0,0), some (34,0), some (35,0), some (2,0), some (1,0), some (3,0), none, none, some (1,1), some (4,0), some (4,1), none, none, none],
  [some (38,0), some (39,0), none, some (40,0), some (41,0), some (42,0), none, some (43,0), some (44,0), some (45,0), some (46,0), some (47,0), none, some (48,0), some (49,0), some (50,0), some (51,0), some (52,0), some (53,0), some (54,0), none, none, some (55,0), none, none]]
def fp (t j : Nat) : Option (Nat × Nat) := ((fpL.getD t []).getD j none)
def el (t i j : Nat) : Nat × Nat := if t = 31 then (32, 25 * i + j) else if t = 33 then (5, 2 + j) else (5, 8 + j)
def isZ (t j : Nat) : Bool := (t == 4 && j == 1) || (t == 6 && (j == 8 || j == 9)) || (t == 7 && j == 21)
abbrev classes : List vw_C := [(RX0, TX0, 3), (RX1, TX1, 15), (RX2, TX2, 4), (RX3, TX3, 2), (RX4, TX4, 8), (RX5, TX5, 8), (RX6, TX6, 16), (RX7, TX7, 25)]
abbrev tysL (cy : Nat → ClassId) : List (ClassId × FieldType) := [(cy 0, .int), (cy 1, .char), (cy 2, .boolean), (cy 3, .object "BottleneckShop$State"), (cy 4, .array .int)]
def enc (cy : Nat → ClassId) (ad : Nat → Nat → Nat) (σ : Mem) (t i : Nat) : va_E :=
  match ak t with
  | none => .inr (t, (List.range (fN t)).map (fun j => match fp t j with | none => .int (Int32.ofInt (σ t i (j : Int))) | some q => .ref (ad q.1 (i + q.2))))
  | some (e, n) => if e < 3 then .inl (cy e, n, .inl (fun j => Int32.ofInt (σ t i (j : Int)))) else .inl (cy e, n, .inr (.inr (.inr (.inr (fun j => some (ad (el t i j).1 (el t i j).2))))))
def cs : List (Nat × Nat) := (List.range 56).flatMap (fun t => (List.range (cnt t)).map (fun i => (t, i)))
def pool (cy : Nat → ClassId) (ad : Nat → Nat → Nat) (σ : Mem) : va_W := cs.map (fun c => (ad c.1 c.2, enc cy ad σ c.1 c.2))
theorem cs_nodup : cs.Nodup := by decide +kernel
theorem cnt_lt {t i : Nat} (h : i < cnt t) : t < 56 := by
  rcases Nat.lt_or_ge t 56 with q | q
  · exact q
  · have : cnt t = 0 := by
      unfold cnt
      rw [List.getD_eq_getElem?_getD, List.getElem?_eq_none (by exact q)]
      rfl
    omega
theorem cs_mem {t i : Nat} (h : i < cnt t) : (t, i) ∈ cs := by
  unfold cs
  exact List.mem_flatMap.mpr ⟨t, List.mem_range.mpr (cnt_lt h), List.mem_map.mpr ⟨i, List.mem_range.mpr h, rfl⟩⟩
theorem cs_cnt {c : Nat × Nat} (h : c ∈ cs) : c.2 < cnt c.1 := by
  unfold cs at h
  obtain ⟨t, -, h2⟩ := List.mem_flatMap.mp h
  obtain ⟨i, h3, rfl⟩ := List.mem_map.mp h2
  exact List.mem_range.mp h3
theorem pool_at (cy : Nat → ClassId) (ad : Nat → Nat → Nat) (σ : Mem) {t i : Nat} (h : i < cnt t) : ∃ q : Nat, cs[q]? = some (t, i) ∧ (pool cy ad σ)[q]? = some (ad t i, enc cy ad σ t i) := by
  obtain ⟨q, hq⟩ := List.getElem?_of_mem (cs_mem h)
  exact ⟨q, hq, by unfold pool; rw [List.getElem?_map, hq]; rfl⟩
theorem pool_set {cy : Nat → ClassId} {ad : Nat → Nat → Nat} {σ σ' : Mem} {t i q : Nat} {e : va_E} (hq : cs[q]? = some (t, i)) (he : enc cy ad σ' t i = e) (ho : ∀ t' i', (t', i') ≠ (t, i) → enc cy ad σ' t' i' = enc cy ad σ t' i') : (pool cy ad σ).set q (ad t i, e) = pool cy ad σ' := by
  have hl := (List.getElem?_eq_some_iff.mp hq).1
  apply List.ext_getElem?
  intro k
  by_cases hk : k = q
  · subst hk
    rw [List.getElem?_set_self (by unfold pool; rw [List.length_map]; exact hl)]
    unfold pool
    rw [List.getElem?_map, hq, ← he]
    rfl
  · rw [List.getElem?_set_ne (Ne.symm hk)]
    unfold pool
    rw [List.getElem?_map, List.getElem?_map]
    cases h : cs[k]? with
    | none => rfl
    | some c =>
      have hc : c ≠ (t, i) := by
        intro hc
        subst hc
        exact hk ((List.getElem?_inj (List.getElem?_eq_some_iff.mp h).1 cs_nodup).mp (h.trans hq.symm))
      show some (ad c.1 c.2, enc cy ad σ c.1 c.2) = some (ad c.1 c.2, enc cy ad σ' c.1 c.2)
      rw [ho c.1 c.2 hc]
theorem up_other {cy : Nat → ClassId} {ad : Nat → Nat → Nat} {σ : Mem} {t i : Nat} {j v : Int} : ∀ t' i', (t', i') ≠ (t, i) → enc cy ad (up σ t i j v) t' i' = enc cy ad σ t' i' := by
  intro t' i' h
  have h2 : up σ t i j v t' i' = σ t' i' := by
    funext j'
    unfold up
    rw [if_neg]
    rintro ⟨rfl, rfl, -⟩
    exact h rfl
  unfold enc
  rw [h2]
theorem up_arr {cy : Nat → ClassId} {ad : Nat → Nat → Nat} {σ : Mem} {t i e n : Nat} {x v : Int} (hk : ak t = some (e, n)) (he : e < 3) (hx : 0 ≤ x) : enc cy ad (up σ t i x v) t i = .inl (cy e, n, .inl (upd (fun j => Int32.ofInt (σ t i (j : Int))) x.toNat (Int32.ofInt v))) := by
  unfold enc
  rw [hk]
  simp only [he, if_true]
  congr 4
  funext k
  unfold up upd
  by_cases h : k = x.toNat
  · subst h
    simp [Int.toNat_of_nonneg hx]
  · have : ¬ (k : Int) = x := by omega
    simp [h, this]
theorem enc_arr {cy : Nat → ClassId} {ad : Nat → Nat → Nat} {σ : Mem} {t i e n : Nat} (hk : ak t = some (e, n)) (he : e < 3) : enc cy ad σ t i = .inl (cy e, n, .inl (fun j => Int32.ofInt (σ t i (j : Int)))) := by
  unfold enc
  rw [hk]
  simp only [he, if_true]
theorem enc_ref {cy : Nat → ClassId} {ad : Nat → Nat → Nat} {σ : Mem} {t i e n : Nat} (hk : ak t = some (e, n)) (he : ¬ e < 3) : enc cy ad σ t i = .inl (cy e, n, .inr (.inr (.inr (.inr (fun j => some (ad (el t i j).1 (el t i j).2)))))) := by
  unfold enc
  rw [hk]
  simp only [he, if_false]
def fV (ad : Nat → Nat → Nat) (σ : Mem) (t i j : Nat) : Value := match fp t j with | none => .int (Int32.ofInt (σ t i (j : Int))) | some q => .ref (ad q.1 (i + q.2))
theorem enc_obj {cy : Nat → ClassId} {ad : Nat → Nat → Nat} {σ : Mem} {t i : Nat} (hk : t < 8) : enc cy ad σ t i = .inr (t, (List.range (fN t)).map (fV ad σ t i)) := by
  unfold enc ak
  rw [if_pos hk]
  rfl
theorem up_obj {cy : Nat → ClassId} {ad : Nat → Nat → Nat} {σ : Mem} {t i j : Nat} {v : Int} (hk : t < 8) (hf : fp t j = none) : enc cy ad (up σ t i (j : Int) v) t i = .inr (t, ((List.range (fN t)).map (fV ad σ t i)).set j (.int (Int32.ofInt v))) := by
  rw [enc_obj hk]
  congr 2
  apply List.ext_getElem?
  intro k
  by_cases h : k = j
  · subst h
    by_cases hl : k < fN t
    · rw [List.getElem?_set_self (by simpa using hl), List.getElem?_map, List.getElem?_range hl]
      simp [fV, hf, up]
    · rw [List.getElem?_eq_none (by simpa using hl), List.getElem?_eq_none (by simpa using hl)]
  · rw [List.getElem?_set_ne (Ne.symm h), List.getElem?_map, List.getElem?_map]
    by_cases hl : k < fN t
    · rw [List.getElem?_range hl]
      have h2 : ¬ (k : Int) = (j : Int) := by omega
      simp [fV, up, h2]
    · rw [List.getElem?_eq_none (by simpa using hl)]
      rfl
end
section
/-! locals -/
def lget : LL → Nat → Option AV
  | [], _ => none
  | a :: _, 0 => a
  | _ :: l, n + 1 => lget l n
def lset : LL → Nat → Option AV → LL
  | [], _, _ => []
  | _ :: l, 0, v => v :: l
  | a :: l, n + 1, v => a :: lset l n v
/-- the place before isn't the first half of a long -/
def okst (L : LL) : Nat → Prop
  | 0 => True
  | n + 1 => match lget L n with
    | some (.inr (.inr _)) => False
    | _ => True
theorem lget_set_same : ∀ {L : LL} {i : Nat} {v w : Option AV}, lget (lset L i v) i = w → i < L.length → v = w
  | [], _, _, _, _, h => absurd h (Nat.not_lt_zero _)
  | _ :: _, 0, _, _, h, _ => h
  | _ :: l, n + 1, _, _, h, h2 => lget_set_same (L := l) h (Nat.lt_of_succ_lt_succ h2)
theorem lget_set_ne : ∀ {L : LL} {i k : Nat} {v : Option AV}, k ≠ i → lget (lset L i v) k = lget L k
  | [], _, _, _, _ => rfl
  | _ :: _, 0, 0, _, h => absurd rfl h
  | _ :: _, 0, _ + 1, _, _ => rfl
  | _ :: _, _ + 1, 0, _, _ => rfl
  | _ :: l, n + 1, k + 1, _, h => lget_set_ne (L := l) (fun e => h (by rw [e]))
theorem lset_len : ∀ (L : LL) (i : Nat) (v : Option AV), (lset L i v).length = L.length
  | [], _, _ => rfl
  | _ :: _, 0, _ => rfl
  | _ :: l, n + 1, v => by simp [lset, lset_len l n v]
theorem lget_lt : ∀ {L : LL} {i : Nat} {v : AV}, lget L i = some v → i < L.length
  | [], _, _, h => by cases h
  | _ :: _, 0, _, _ => Nat.zero_lt_succ _
  | _ :: l, n + 1, _, h => Nat.succ_lt_succ (lget_lt (L := l) h)
/-- a step of the machine, over abstract values: what must hold for it to go on, and where it goes on -/
def cnd : Jvm.ClassFile.Cond → Int → Int → Prop
  | .eq, a, b => a = b
  | .ne, a, b => a ≠ b
  | .lt, a, b => a < b
  | .ge, a, b => b ≤ a
  | .gt, a, b => b < a
  | .le, a, b => a ≤ b
def swt (J : Nat → Prop) (x : Int) : Int → List Nat → Prop
  | _, [] => True
  | lo, t :: r => (x = lo → J t) ∧ swt J x (lo + 1) r
/-- what a method's instructions may look up: fields, constants, calls (how many are popped, what is asked), the script -/
abbrev MI : Type := (Nat → Option (Nat × Nat × Int)) × (Nat → Option Int) × (Nat → Option Int64) × (Nat → Option (Nat × Nat × Tr)) × Bool × Nat × (Int → Int)
def rcv (ci : Nat) : List AV → Prop
  | .inr (.inl c) :: _ => c.1 = ci
  | _ => False
def stp (M : MI) (K : Option Int → Mem → Prop) (N : LL → List AV → Mem → Prop) (J : Nat → LL → List AV → Mem → Prop) (tg : List Nat) (L : LL) (S : List AV) (σ : Mem) : Instr → Prop
  | .aload_n k => match lget L k with
    | some (.inr (.inl c)) => N L (.inr (.inl c) :: S) σ
    | _ => False
  | .aload k => match lget L k with
    | some (.inr (.inl c)) => N L (.inr (.inl c) :: S) σ
    | _ => False
  | .iload_n k => match lget L k with
    | some (.inl x) => N L (.inl x :: S) σ
    | _ => False
  | .iload k => match lget L k with
    | some (.inl x) => N L (.inl x :: S) σ
    | _ => False
  | .lload_n k => match lget L k with
    | some (.inr (.inr x)) => N L (.inr (.inr x) :: S) σ
    | _ => False
  | .lload k => match lget L k with
    | some (.inr (.inr x)) => N L (.inr (.inr x) :: S) σ
    | _ => False
  | .istore_n k => match S with
    | .inl x :: S' => (k : Nat) < L.length ∧ okst L k ∧ N (lset L k (some (.inl x))) S' σ
    | _ => False
  | .istore k => match S with
    | .inl x :: S' => k < L.length ∧ okst L k ∧ N (lset L k (some (.inl x))) S' σ
    | _ => False
  | .lstore_n k => match S with
    | .inr (.inr x) :: S' => (k : Nat) + 1 < L.length ∧ okst L k ∧ N (lset (lset L k (some (.inr (.inr x)))) (k + 1) none) S' σ
    | _ => False
  | .lstore k => match S with
    | .inr (.inr x) :: S' => k + 1 < L.length ∧ okst L k ∧ N (lset (lset L k (some (.inr (.inr x)))) (k + 1) none) S' σ
    | _ => False
  | .iconst i => N L (.inl i :: S) σ
  | .bipush i => N L (.inl i :: S) σ
  | .sipush i => N L (.inl i :: S) σ
  | .ldc k => match M.2.1 k with
    | some x => N L (.inl x :: S) σ
    | none => False
  | .lconst i => N L (.inr (.inr (Int64.ofNat (i : Nat))) :: S) σ
  | .ldc2_w k => match M.2.2.1 k with
    | some x => N L (.inr (.inr x) :: S) σ
    | none => False
  | .dup => match S with
    | .inl x :: S' => N L (.inl x :: .inl x :: S') σ
    | .inr (.inl x) :: S' => N L (.inr (.inl x) :: .inr (.inl x) :: S') σ
    | _ => False
  | .pop => match S with
    | .inl _ :: S' => N L S' σ
    | _ => False
  | .dup2 => match S with
    | .inl x :: .inr (.inl y) :: S' => N L (.inl x :: .inr (.inl y) :: .inl x :: .inr (.inl y) :: S') σ
    | _ => False
  | .iadd => match S with
    | .inl b :: .inl a :: S' => inR (a + b) ∧ N L (.inl (a + b) :: S') σ
    | _ => False
  | .isub => match S with
    | .inl b :: .inl a :: S' => inR (a - b) ∧ N L (.inl (a - b) :: S') σ
    | _ => False
  | .imul => match S with
    | .inl b :: .inl a :: S' => inR (a * b) ∧ N L (.inl (a * b) :: S') σ
    | _ => False
  | .idiv => match S with
    | .inl b :: .inl a :: S' => 0 ≤ a ∧ 0 < b ∧ N L (.inl (a / b) :: S') σ
    | _ => False
  | .irem => match S with
    | .inl b :: .inl a :: S' => 0 ≤ a ∧ 0 < b ∧ N L (.inl (a % b) :: S') σ
    | _ => False
  | .iand => match S with
    | .inl b :: .inl a :: S' => N L (.inl (band a b) :: S') σ
    | _ => False
  | .ior => match S with
    | .inl b :: .inl a :: S' => N L (.inl (bor a b) :: S') σ
    | _ => False
  | .ixor => match S with
    | .inl b :: .inl a :: S' => N L (.inl (bxor a b) :: S') σ
    | _ => False
  | .ishl => match S with
    | .inl b :: .inl a :: S' => N L (.inl (bshl a b) :: S') σ
    | _ => False
  | .ishr => match S with
    | .inl b :: .inl a :: S' => N L (.inl (bshr a b) :: S') σ
    | _ => False
  | .i2c => match S with
    | .inl a :: S' => N L (.inl (bchr a) :: S') σ
    | _ => False
  | .i2l => match S with
    | .inl a :: S' => N L (.inr (.inr (Int32.ofInt a).toInt64) :: S') σ
    | _ => False
  | .l2i => match S with
    | .inr (.inr a) :: S' => N L (.inl a.toInt32.toInt :: S') σ
    | _ => False
  | .land => match S with
    | .inr (.inr b) :: .inr (.inr a) :: S' => N L (.inr (.inr (a &&& b)) :: S') σ
    | _ => False
  | .lor => match S with
    | .inr (.inr b) :: .inr (.inr a) :: S' => N L (.inr (.inr (a ||| b)) :: S') σ
    | _ => False
  | .lshl => match S with
    | .inl b :: .inr (.inr a) :: S' => N L (.inr (.inr (a <<< ((Int32.ofInt b).toInt64 &&& 63))) :: S') σ
    | _ => False
  | .lshr => match S with
    | .inl b :: .inr (.inr a) :: S' => N L (.inr (.inr (a >>> ((Int32.ofInt b).toInt64 &&& 63))) :: S') σ
    | _ => False
  | .lushr => match S with
    | .inl b :: .inr (.inr a) :: S' => N L (.inr (.inr (a.toUInt64 >>> ((Int32.ofInt b).toInt64.toUInt64 &&& Int64.toUInt64 63)).toInt64) :: S') σ
    | _ => False
  | .lcmp => match S with
    | .inr (.inr b) :: .inr (.inr a) :: S' => N L (.inl (lg_cmp a b).toInt :: S') σ
    | _ => False
  | .iinc k n => match lget L k with
    | some (.inl x) => okst L k ∧ inR (x + n) ∧ N (lset L k (some (.inl (x + n)))) S σ
    | _ => False
  | .goto _ => match tg with
    | [t] => J t L S σ
    | _ => False
  | .ifCond c _ => match tg, S with
    | [t], .inl a :: S' => (cnd c a 0 → J t L S' σ) ∧ (¬ cnd c a 0 → N L S' σ)
    | _, _ => False
  | .if_icmp c _ => match tg, S with
    | [t], .inl b :: .inl a :: S' => (cnd c a b → J t L S' σ) ∧ (¬ cnd c a b → N L S' σ)
    | _, _ => False
  | .ifnull _ => match S with
    | .inr (.inl _) :: S' => N L S' σ
    | _ => False
  | .ifnonnull _ => match tg, S with
    | [t], .inr (.inl _) :: S' => J t L S' σ
    | _, _ => False
  | .tableswitch _ lo _ _ => match tg, S with
    | d :: ts, .inl x :: S' => swt (fun t => J t L S' σ) x lo ts ∧ (x < lo ∨ lo + ts.length ≤ x → J d L S' σ)
    | _, _ => False
  | .getfield k => match M.1 k, S with
    | some (t, j, z), .inr (.inl (t', i)) :: S' => t' = t ∧ (match fp t j with
      | none => N L (.inl (σ t i z) :: S') σ
      | some (t2, o) => N L (.inr (.inl (t2, i + o)) :: S') σ)
    | _, _ => False
  | .putfield k => match M.1 k, S with
    | some (t, j, z), .inl x :: .inr (.inl (t', i)) :: S' => t' = t ∧ fp t j = none ∧ (isZ t j = true → x = 0 ∨ x = 1) ∧ N L S' (up σ t i z x)
    | _, _ => False
  | .iaload => match S with
    | .inl x :: .inr (.inl (t, i)) :: S' => match ak t with
      | some (0, n) => (0 ≤ x ∧ x < n) ∧ N L (.inl (σ t i x) :: S') σ
      | some _ => False
      | none => t = 56 ∧ M.2.2.2.2.1 = true ∧ (0 ≤ x ∧ x < M.2.2.2.2.2.1) ∧ N L (.inl (M.2.2.2.2.2.2 x) :: S') σ
    | _ => False
  | .caload => match S with
    | .inl x :: .inr (.inl (t, i)) :: S' => match ak t with
      | some (1, n) => (0 ≤ x ∧ x < n) ∧ N L (.inl (σ t i x) :: S') σ
      | _ => False
    | _ => False
  | .baload => match S with
    | .inl x :: .inr (.inl (t, i)) :: S' => match ak t with
      | some (2, n) => (0 ≤ x ∧ x < n) ∧ N L (.inl (σ t i x) :: S') σ
      | _ => False
    | _ => False
  | .iastore => match S with
    | .inl v :: .inl x :: .inr (.inl (t, i)) :: S' => match ak t with
      | some (0, n) => (0 ≤ x ∧ x < n) ∧ N L S' (up σ t i x v)
      | _ => False
    | _ => False
  | .castore => match S with
    | .inl v :: .inl x :: .inr (.inl (t, i)) :: S' => match ak t with
      | some (1, n) => (0 ≤ x ∧ x < n) ∧ (0 ≤ v ∧ v < 65536) ∧ N L S' (up σ t i x v)
      | _ => False
    | _ => False
  | .bastore => match S with
    | .inl v :: .inl x :: .inr (.inl (t, i)) :: S' => match ak t with
      | some (2, n) => (0 ≤ x ∧ x < n) ∧ (v = 0 ∨ v = 1) ∧ N L S' (up σ t i x v)
      | _ => False
    | _ => False
  | .aaload => match S with
    | .inl x :: .inr (.inl (t, i)) :: S' => match ak t with
      | some (3, n) => (0 ≤ x ∧ x < n) ∧ N L (.inr (.inl (el t i x.toNat)) :: S') σ
      | some (4, n) => (0 ≤ x ∧ x < n) ∧ N L (.inr (.inl (el t i x.toNat)) :: S') σ
      | _ => False
    | _ => False
  | .arraylength => match S with
    | .inr (.inl (t, _)) :: S' => match ak t with
      | some (0, n) => N L (.inl n :: S') σ
      | some _ => False
      | none => t = 56 ∧ M.2.2.2.2.1 = true ∧ N L (.inl M.2.2.2.2.2.1 :: S') σ
    | _ => False
  | .invokevirtual k => match M.2.2.2.1 k with
    | some (n, ci, T) => ci < 8 ∧ n ≤ S.length ∧ S.length ≤ n + 4 ∧ rcv ci (S.take n).reverse ∧ T (S.take n).reverse σ (fun r σ' => N L ((r.map Sum.inl).toList ++ S.drop n) σ')
    | none => False
  | .invokestatic k => match M.2.2.2.1 k with
    | some (n, ci, T) => ci = 99 ∧ n ≤ S.length ∧ S.length ≤ n + 4 ∧ T (S.take n).reverse σ (fun r σ' => N L ((r.map Sum.inl).toList ++ S.drop n) σ')
    | none => False
  | .ireturn => match S with
    | [.inl x] => K (some x) σ
    | _ => False
  | .return_ => match S with
    | [] => K none σ
    | _ => False
  | _ => False
/-- where jumps go, as the decoded offsets say -/
def tgOK (pc : Nat) (tg : List Nat) : Instr → Bool
  | .goto o => tg.length == 1 && (pc : Int) + o == (tg.getD 0 0 : Nat)
  | .ifCond _ o => tg.length == 1 && (pc : Int) + o == (tg.getD 0 0 : Nat)
  | .if_icmp _ o => tg.length == 1 && (pc : Int) + o == (tg.getD 0 0 : Nat)
  | .ifnonnull o => tg.length == 1 && (pc : Int) + o == (tg.getD 0 0 : Nat)
  | .tableswitch d lo hi os => hi + 1 == lo + os.size && ((d :: os.toList).map (fun o => (pc : Int) + o) == (tg : List Nat).map (fun t : Nat => (t : Int)))
  | .iconst i => decide (-128 ≤ i ∧ i < 128)
  | .bipush i => decide (-128 ≤ i ∧ i < 128)
  | .sipush i => decide (-32768 ≤ i ∧ i < 32768)
  | _ => true
abbrev CL : Type := List (Nat × Instr × Nat × List Nat)
def drp (t : Nat) : CL → CL
  | [] => []
  | q :: r => if q.1 = t then q :: r else drp t r
abbrev Cut : Type := Nat → Option (LL → List AV → Mem → Nat → Prop)
def wp (M : MI) (C : CL) (cut : Cut) (bd : Nat → Prop) (K : Option Int → Mem → Prop) : Nat → CL → LL → List AV → Mem → Prop
  | 0, _, _, _, _ => False
  | _ + 1, [], _, _, _ => False
  | n + 1, q :: r, L, S, σ => stp M K
      (fun L' S' σ' => match cut (q.1 + q.2.2.1) with
        | some I => ∃ k, bd k ∧ I L' S' σ' k
        | none => wp M C cut bd K n r L' S' σ')
      (fun t L' S' σ' => match cut t with
        | some I => ∃ k, bd k ∧ I L' S' σ' k
        | none => wp M C cut bd K n (drp t C) L' S' σ')
      q.2.2.2 L S σ q.2.1
end
section
def lw_g : List Cond := lw_tbl.filter goodWord
def isNest : Cond → Bool
  | .methodLinkNest .. => true
  | _ => false
def nw : List Cond := lw_tbl.filter isNest
theorem mg {w : Cond} (i : Nat) (h : lw_tbl[i]? = some w) (hg : goodWord w = true) : w ∈ lw_g := List.mem_filter.mpr ⟨List.mem_of_getElem? h, hg⟩
theorem mn {w : Cond} (i : Nat) (h : lw_tbl[i]? = some w) (hg : isNest w = true) : w ∈ nw := List.mem_filter.mpr ⟨List.mem_of_getElem? h, hg⟩
theorem nw_warm {s U : State} (hW : s.WarmedH U.vm) (h : ∀ w ∈ nw, va_Nw w s) : ∀ w ∈ nw, va_Nw w U := by
  intro w hw
  have h1 := h w hw
  have h2 := (List.mem_filter.mp hw).2
  cases w <;> first | (cases h2; done) | skip
  exact va_Nw.warmM hW h1
theorem nw_same {u U : State} (hv : u.vm = U.vm) (h : ∀ w ∈ nw, va_Nw w u) : ∀ w ∈ nw, va_Nw w U := by
  intro w hw
  have h1 := h w hw
  have h2 := (List.mem_filter.mp hw).2
  cases w <;> first | (cases h2; done) | skip
  exact va_Nw.same rfl hv h1
theorem wsIn0 : ∀ w ∈ u_ws RX0 TX0 3, w ∈ lw_g := fun w hw => List.mem_filter.mpr ⟨(by decide +kernel : ∀ w ∈ u_ws RX0 TX0 3, w ∈ lw_tbl) w hw, List.all_eq_true.mp (by decide +kernel : (u_ws RX0 TX0 3).all goodWord = true) w hw⟩
theorem wsIn1 : ∀ w ∈ u_ws RX1 TX1 15, w ∈ lw_g := fun w hw => List.mem_filter.mpr ⟨(by decide +kernel : ∀ w ∈ u_ws RX1 TX1 15, w ∈ lw_tbl) w hw, List.all_eq_true.mp (by decide +kernel : (u_ws RX1 TX1 15).all goodWord = true) w hw⟩
theorem wsIn2 : ∀ w ∈ u_ws RX2 TX2 4, w ∈ lw_g := fun w hw => List.mem_filter.mpr ⟨(by decide +kernel : ∀ w ∈ u_ws RX2 TX2 4, w ∈ lw_tbl) w hw, List.all_eq_true.mp (by decide +kernel : (u_ws RX2 TX2 4).all goodWord = true) w hw⟩
theorem wsIn3 : ∀ w ∈ u_ws RX3 TX3 2, w ∈ lw_g := fun w hw => List.mem_filter.mpr ⟨(by decide +kernel : ∀ w ∈ u_ws RX3 TX3 2, w ∈ lw_tbl) w hw, List.all_eq_true.mp (by decide +kernel : (u_ws RX3 TX3 2).all goodWord = true) w hw⟩
theorem wsIn4 : ∀ w ∈ u_ws RX4 TX4 8, w ∈ lw_g := fun w hw => List.mem_filter.mpr ⟨(by decide +kernel : ∀ w ∈ u_ws RX4 TX4 8, w ∈ lw_tbl) w hw, List.all_eq_true.mp (by decide +kernel : (u_ws RX4 TX4 8).all goodWord = true) w hw⟩
theorem wsIn5 : ∀ w ∈ u_ws RX5 TX5 8, w ∈ lw_g := fun w hw => List.mem_filter.mpr ⟨(by decide +kernel : ∀ w ∈ u_ws RX5 TX5 8, w ∈ lw_tbl) w hw, List.all_eq_true.mp (by decide +kernel : (u_ws RX5 TX5 8).all goodWord = true) w hw⟩
theorem wsIn6 : ∀ w ∈ u_ws RX6 TX6 16, w ∈ lw_g := fun w hw => List.mem_filter.mpr ⟨(by decide +kernel : ∀ w ∈ u_ws RX6 TX6 16, w ∈ lw_tbl) w hw, List.all_eq_true.mp (by decide +kernel : (u_ws RX6 TX6 16).all goodWord = true) w hw⟩
theorem wsIn7 : ∀ w ∈ u_ws RX7 TX7 25, w ∈ lw_g := fun w hw => List.mem_filter.mpr ⟨(by decide +kernel : ∀ w ∈ u_ws RX7 TX7 25, w ∈ lw_tbl) w hw, List.all_eq_true.mp (by decide +kernel : (u_ws RX7 TX7 25).all goodWord = true) w hw⟩
def clsOK (t : Nat) (q : vw_C) : Prop := q.2.2 = fN t ∧ t < 8 ∧ (∀ w ∈ u_ws q.1 q.2.1 q.2.2, w ∈ lw_g) ∧ (∀ a, a < q.2.2 → ∀ b, b < q.2.2 → a ≠ b → (q.2.1 a).2.1 ≠ (q.2.1 b).2.1) ∧
  ∃ ty : Nat → FieldType, (∀ k, k < q.2.2 → parseFieldDescriptor (q.2.1 k).2.2.1 = some (ty k)) ∧ ∀ j, j < q.2.2 → fp t j = none → (q.2.1 j).2.2.2 = false ∧ ty j = if isZ t j then .boolean else .int
theorem cls_ok : ∀ (t : Nat) (q : vw_C), classes[t]? = some q → clsOK t q
  | 0, q, h => by cases h; exact ⟨rfl, by decide, wsIn0, nmX0, tyX0, tyX0_ok, by decide⟩
  | 1, q, h => by cases h; exact ⟨rfl, by decide, wsIn1, nmX1, tyX1, tyX1_ok, by decide⟩
  | 2, q, h => by cases h; exact ⟨rfl, by decide, wsIn2, nmX2, tyX2, tyX2_ok, by decide⟩
  | 3, q, h => by cases h; exact ⟨rfl, by decide, wsIn3, nmX3, tyX3, tyX3_ok, by decide⟩
  | 4, q, h => by cases h; exact ⟨rfl, by decide, wsIn4, nmX4, tyX4, tyX4_ok, by decide⟩
  | 5, q, h => by cases h; exact ⟨rfl, by decide, wsIn5, nmX5, tyX5, tyX5_ok, by decide⟩
  | 6, q, h => by cases h; exact ⟨rfl, by decide, wsIn6, nmX6, tyX6, tyX6_ok, by decide⟩
  | 7, q, h => by cases h; exact ⟨rfl, by decide, wsIn7, nmX7, tyX7, tyX7_ok, by decide⟩
  | t + 8, q, h => by simp [classes] at h
/-- pointers keep to their counts -/
theorem fp_ok : ∀ t, t < 8 → ∀ i, i < cnt t → ∀ j, j < fN t → ∀ q, fp t j = some q → i + q.2 < cnt q.1 := by decide +kernel
theorem el_key : ∀ t, t < 56 → ∀ i, i < cnt t → ∀ j, j < ((ak t).getD (0, 0)).2 → 3 ≤ ((ak t).getD (0, 0)).1 → (el t i j).2 < cnt (el t i j).1 := by decide +kernel
theorem el_ok {t n k : Nat} (hn : ak t = some (k, n)) (hk : 3 ≤ k) {i : Nat} (hi : i < cnt t) {j : Nat} (hj : j < n) : (el t i j).2 < cnt (el t i j).1 := el_key t (cnt_lt hi) i hi j (by rw [hn]; exact hj) (by rw [hn]; exact hk)
theorem ak_small : ∀ t, t < 56 → ∀ q, ak t = some q → q.2 < 1000 := by decide +kernel
theorem ak_none : ∀ t, t < 56 → ak t = none → t < 8 := by decide +kernel
def Ok (D : va_G) (cy : Nat → ClassId) (ad : Nat → Nat → Nat) (A : Nat → Prop) (H0 H : Heap) (locs : List Loc) (σ : Mem) : Prop := va_P D classes (pool cy ad σ) H ∧ va_S A H0 H locs ∧ ∀ t i j, inR (σ t i j)
def rel (ad : Nat → Nat → Nat) (L : LL) (nL : Nat) (ls : Array Slot) : Prop := L.length = nL ∧ lv_wf ls ∧ ls.size = nL ∧ ∀ i v, lget L i = some v → ls[i]? = some (.val (vV ad v))
def okV : AV → Prop
  | .inl x => inR x
  | .inr (.inl c) => c.2 < cnt c.1 ∨ c = (56, 0)
  | .inr (.inr _) => True
def okL (L : LL) : Prop := ∀ i v, lget L i = some v → okV v
def okS (S : List AV) : Prop := ∀ v ∈ S, okV v
def rV (r : Option Int) : List Value := (r.map (fun x => Value.int (Int32.ofInt x))).toList
section
variable (p : Program) (l : Launch) (e : Env) (R : Room) (s : State) (m : MethodId) (args : Array Value) (below : List Frame) (meth : Method) (c : Code) (cells slots : Nat) (Q : State → Prop) (D : va_G) (cy : Nat → ClassId) (ad : Nat → Nat → Nat) (A : Nat → Prop) (cc : ByteArray) (nL : Nat)
def Gd (pc : Nat) (L : LL) (S : List AV) (σ : Mem) : Prop := ∀ H locs ls, Ok D cy ad A s.heap H locs σ → rel ad L nL ls → okL L → okS S → W p l e R s m args below meth c H locs cells slots Q (F0 m pc ls (S.map (vV ad)))
/-- a call, as an instruction's rule -/
def CR (ins : Instr) (n : Nat) (pre : List AV → Prop) (T : Tr) : Prop := ∀ pc H locs ls σ (as rest : List AV) (K' : Option Int → Mem → Prop), decode cc pc = .ok (ins, 3) → Ok D cy ad A s.heap H locs σ → ls.size = nL → as.length = n → okS as → pre as → T as σ K' → rest.length ≤ 4 →
  (∀ r σ' H' locs', Ok D cy ad A s.heap H' locs' σ' → (∀ x, r = some x → inR x) → K' r σ' → W p l e R s m args below meth c H' locs' cells slots Q (F0 m (pc + 3) ls (rV r ++ rest.map (vV ad)))) →
  W p l e R s m args below meth c H locs cells slots Q (F0 m pc ls ((as.reverse ++ rest).map (vV ad)))
def Cx (own : String) (M : MI) (K : Option Int → Mem → Prop) : Prop :=
  (p.tables.exec = Jvm.exec ∧ c.code = cc ∧ s.vm.findClass own = some m.cls ∧ (∀ w ∈ lw_g, w.before args s = true) ∧ va_K D classes (tysL cy) s ∧ (∀ σ, va_D A (pool cy ad σ))) ∧
  (∀ k t j z, M.1 k = some (t, j, z) → ∃ q, classes[t]? = some q ∧ z = (j : Int) ∧ j < q.2.2 ∧ (Cond.fieldLink own k (q.2.1 j).1 (q.2.1 j).2.1 (q.2.1 j).2.2.1).before args s = true) ∧
  (∀ k x, M.2.1 k = some x → inR x ∧ (Cond.constant own k (Int32.ofInt x)).before args s = true) ∧
  (∀ k x, M.2.2.1 k = some x → (Cond.constantLong own k x).before args s = true) ∧
  (∀ k n ci T, M.2.2.2.1 k = some (n, ci, T) → (ci < 8 → CR p l e R s m args below meth c cells slots Q D cy ad A cc nL (.invokevirtual k) n (rcv ci) T) ∧ (ci = 99 → CR p l e R s m args below meth c cells slots Q D cy ad A cc nL (.invokestatic k) n (fun _ => True) T)) ∧
  (M.2.2.2.2.1 = true → va_X (ad 56 0) M.2.2.2.2.2.1 (fun j => Int32.ofInt (M.2.2.2.2.2.2 (j : Int))) s s.heap ∧ ad 56 0 < s.heap.size ∧ ¬ A (ad 56 0) ∧ M.2.2.2.2.2.1 < 2 ^ 31 ∧ ∀ j, inR (M.2.2.2.2.2.2 j)) ∧
  (∀ x pc H locs ls σ, decode cc pc = .ok (.ireturn, 1) → Ok D cy ad A s.heap H locs σ → inR x → K (some x) σ → W p l e R s m args below meth c H locs cells slots Q (F0 m pc ls [.int (Int32.ofInt x)])) ∧
  (∀ pc H locs ls σ, decode cc pc = .ok (.return_, 1) → Ok D cy ad A s.heap H locs σ → K none σ → W p l e R s m args below meth c H locs cells slots Q (F0 m pc ls []))
end
theorem okS_cons {v : AV} {S : List AV} (h : okS (v :: S)) : okV v ∧ okS S := ⟨h v List.mem_cons_self, fun w hw => h w (List.mem_cons_of_mem _ hw)⟩
theorem okS_push {v : AV} {S : List AV} (h : okV v) (h2 : okS S) : okS (v :: S) := fun w hw => (List.mem_cons.mp hw).elim (fun e => e ▸ h) (h2 w)
theorem rel_at {ad : Nat → Nat → Nat} {L : LL} {nL : Nat} {ls : Array Slot} (h : rel ad L nL ls) {i : Nat} {v : AV} (hv : lget L i = some v) : ls[i]? = some (.val (vV ad v)) := h.2.2.2 i v hv
theorem cat1 {ad : Nat → Nat → Nat} {v : AV} (h : ∀ x, v ≠ .inr (.inr x)) : (vV ad v).category = 1 := by
  rcases v with x | c | x
  · rfl
  · rfl
  · exact absurd rfl (h x)
theorem cat2 {ad : Nat → Nat → Nat} {v : AV} (h : (vV ad v).category = 2) : ∃ x, v = .inr (.inr x) := by
  rcases v with x | c | x
  · cases h
  · cases h
  · exact ⟨x, rfl⟩
def lp (ad : Nat → Nat → Nat) (L : LL) : List (Nat × Value) := (List.range L.length).filterMap (fun i => (lget L i).map (fun v => (i, vV ad v)))
theorem lp_mem {ad : Nat → Nat → Nat} {L : LL} {i : Nat} {v : AV} (h : lget L i = some v) : (i, vV ad v) ∈ lp ad L := List.mem_filterMap.mpr ⟨i, List.mem_range.mpr (lget_lt h), by rw [h]; rfl⟩
theorem rel_has {ad : Nat → Nat → Nat} {L : LL} {nL : Nat} {ls : Array Slot} (h : rel ad L nL ls) : lv_has ls nL (lp ad L) := by
  refine ⟨h.2.2.1, h.2.1, fun q hq => ?_⟩
  obtain ⟨i, -, hi⟩ := List.mem_filterMap.mp hq
  cases hv : lget L i with
  | none => rw [hv] at hi; cases hi
  | some v =>
    rw [hv] at hi
    cases hi
    exact h.2.2.2 i v hv
/-- behind a store of one place -/
theorem rel_store {ad : Nat → Nat → Nat} {L : LL} {nL i : Nat} {ls' : Array Slot} {v : AV} (h1 : L.length = nL) (hi : i < L.length) (hk : okst L i) (hs : lv_has ls' nL ((i, vV ad v) :: (lp ad L).filter (fun q => !(q.1 == i) && !(q.1 + 1 == i && q.2.category == 2)))) : rel ad (lset L i (some v)) nL ls' := by
  obtain ⟨h3, h2, h4⟩ := hs
  refine ⟨by rw [lset_len]; exact h1, h2, h3, fun k w hw => ?_⟩
  by_cases hki : k = i
  · subst hki
    have := lget_set_same hw hi
    cases this
    exact h4 (k, vV ad v) List.mem_cons_self
  · rw [lget_set_ne hki] at hw
    refine h4 (k, vV ad w) (List.mem_cons_of_mem _ (List.mem_filter.mpr ⟨lp_mem hw, ?_⟩))
    simp only [Bool.and_eq_true, Bool.not_eq_true', beq_eq_false_iff_ne, ne_eq, Bool.and_eq_false_iff]
    refine ⟨hki, ?_⟩
    by_cases hk1 : k + 1 = i
    · right
      intro hc2
      obtain ⟨x, rfl⟩ := cat2 hc2
      subst hk1
      simp [okst, hw] at hk
    · left
      exact hk1
theorem rel_store2 {ad : Nat → Nat → Nat} {L : LL} {nL i : Nat} {ls' : Array Slot} {v : AV} (h1 : L.length = nL) (hi : i + 1 < L.length) (hk : okst L i) (hs : lv_has ls' nL ((i, vV ad v) :: (lp ad L).filter (fun q => !(q.1 == i) && (!(q.1 == i + 1) && !(q.1 + 1 == i && q.2.category == 2))))) : rel ad (lset (lset L i (some v)) (i + 1) none) nL ls' := by
  obtain ⟨h3, h2, h4⟩ := hs
  refine ⟨by rw [lset_len, lset_len]; exact h1, h2, h3, fun k w hw => ?_⟩
  by_cases hk1 : k = i + 1
  · subst hk1
    have := lget_set_same hw (by rw [lset_len]; exact hi)
    cases this
  rw [lget_set_ne hk1] at hw
  by_cases hki : k = i
  · subst hki
    have := lget_set_same hw (by omega)
    cases this
    exact h4 (k, vV ad v) List.mem_cons_self
  · rw [lget_set_ne hki] at hw
    refine h4 (k, vV ad w) (List.mem_cons_of_mem _ (List.mem_filter.mpr ⟨lp_mem hw, ?_⟩))
    simp only [Bool.and_eq_true, Bool.not_eq_true', beq_eq_false_iff_ne, ne_eq, Bool.and_eq_false_iff]
    refine ⟨hki, hk1, ?_⟩
    by_cases hk1 : k + 1 = i
    · right
      intro hc2
      obtain ⟨x, rfl⟩ := cat2 hc2
      subst hk1
      simp [okst, hw] at hk
    · left
      exact hk1
theorem okL_set {L : LL} {i : Nat} {v : AV} (h : okL L) (hv : okV v) (hi : i < L.length) : okL (lset L i (some v)) := by
  intro k w hw
  by_cases hki : k = i
  · subst hki
    have := lget_set_same hw hi
    cases this
    exact hv
  · rw [lget_set_ne hki] at hw
    exact h k w hw
theorem okL_set2 {L : LL} {i : Nat} {v : AV} (h : okL L) (hv : okV v) (hi : i + 1 < L.length) : okL (lset (lset L i (some v)) (i + 1) none) := by
  intro k w hw
  by_cases hki : k = i + 1
  · subst hki
    have := lget_set_same hw (by rw [lset_len]; exact hi)
    cases this
  · rw [lget_set_ne hki] at hw
    exact okL_set h hv (by omega) k w hw
end
section
/-- the lengths of the instructions -/
def ilen : Instr → Option Nat
  | .aload_n _ => some 1
  | .aload _ => some 2
  | .iload_n _ => some 1
  | .iload _ => some 2
  | .lload_n _ => some 1
  | .lload _ => some 2
  | .istore_n _ => some 1
  | .istore _ => some 2
  | .lstore_n _ => some 1
  | .lstore _ => some 2
  | .iconst _ => some 1
  | .bipush _ => some 2
  | .sipush _ => some 3
  | .ldc _ => some 2
  | .lconst _ => some 1
  | .ldc2_w _ => some 3
  | .dup => some 1
  | .pop => some 1
  | .dup2 => some 1
  | .iadd => some 1
  | .isub => some 1
  | .imul => some 1
  | .idiv => some 1
  | .irem => some 1
  | .iand => some 1
  | .ior => some 1
  | .ixor => some 1
  | .ishl => some 1
  | .ishr => some 1
  | .i2c => some 1
  | .i2l => some 1
  | .l2i => some 1
  | .land => some 1
  | .lor => some 1
  | .lshl => some 1
  | .lshr => some 1
  | .lushr => some 1
  | .lcmp => some 1
  | .iinc _ _ => some 3
  | .goto _ => some 3
  | .ifCond _ _ => some 3
  | .if_icmp _ _ => some 3
  | .ifnull _ => some 3
  | .ifnonnull _ => some 3
  | .getfield _ => some 3
  | .putfield _ => some 3
  | .iaload => some 1
  | .caload => some 1
  | .baload => some 1
  | .iastore => some 1
  | .castore => some 1
  | .bastore => some 1
  | .aaload => some 1
  | .arraylength => some 1
  | .invokevirtual _ => some 3
  | .invokestatic _ => some 3
  | .ireturn => some 1
  | .return_ => some 1
  | _ => none
theorem bip {i : Int} (h : -128 ≤ i ∧ i < 128) : (Int8.ofInt i).toInt32 = Int32.ofInt i := by
  apply Int32.toInt_inj.mp
  rw [oI (by constructor <;> omega), Int8.toInt_toInt32, Int8.toInt_ofInt]
  rw [show Int8.size = 256 from rfl, Int.bmod_def]
  omega
theorem sip {i : Int} (h : -32768 ≤ i ∧ i < 32768) : (Int16.ofInt i).toInt32 = Int32.ofInt i := by
  apply Int32.toInt_inj.mp
  rw [oI (by constructor <;> omega), Int16.toInt_toInt32, Int16.toInt_ofInt]
  rw [show Int16.size = 65536 from rfl, Int.bmod_def]
  omega
theorem inRb {i : Int} (h : -32768 ≤ i ∧ i < 32768) : inR i := by constructor <;> omega
theorem inRd {a b : Int} (ha : 0 ≤ a) (hb : 0 < b) (ra : inR a) : inR (a / b) := by
  have h1 := Int.ediv_nonneg ha (Int.le_of_lt hb)
  have h2 := Int.ediv_le_self b ha
  have := ra.2
  constructor <;> omega
theorem inRm {a b : Int} (hb : 0 < b) (rb : inR b) : inR (a % b) := by
  have h1 := Int.emod_nonneg a (by omega : b ≠ 0)
  have h2 := Int.emod_lt_of_pos a hb
  have := rb.2
  constructor <;> omega
theorem swt_at {J : Nat → Prop} {x : Int} : ∀ {ts : List Nat} {lo : Int} {n t : Nat}, swt J x lo ts → ts[n]? = some t → x = lo + n → J t
  | [], _, _, _, _, h, _ => by simp at h
  | a :: r, lo, 0, t, h, h2, h3 => by
    rw [List.getElem?_cons_zero] at h2
    cases h2
    exact h.1 (by omega)
  | a :: r, lo, n + 1, t, h, h2, h3 => by
    rw [List.getElem?_cons_succ] at h2
    exact swt_at (lo := lo + 1) h.2 h2 (by omega)
theorem va_aldqA {p : Program} {l : Launch} {e : Env} {R : Room} {s : State} {m : MethodId} {args : Array Value} {below : List Frame} {meth : Method} {c : Code} {H : Heap} {locs : List Loc} {cells slots : Nat} {Q : State → Prop} {cc : ByteArray} {pc : Nat} {ls : Array Slot} {rest : List Value} {D : va_G} {cl : List vw_C} {a : Nat} {tys : List (ClassId × FieldType)} {ws : va_W}
    (hexec : p.tables.exec = Jvm.exec) (hb : c.code = cc) (hK : va_K D cl tys s) (hP : va_P D cl ws H) (q0 t0 : Nat) {cA : ClassId} {n : Nat} {f : Nat → Option Nat} (ha : ws[q0]? = some (a, .inl (cA, n, .inr (.inr (.inr (.inr f)))))) (ht : tys[t0]? = some (cA, .array .int)) {i : Int32} (hin : vp_in i n) (hdg : decode cc pc = .ok (.aaload, 1))
    (kk : W p l e R s m args below meth c H locs cells slots Q (F0 m (pc + 1) ls (va_rf (f i.toNatClampNeg) :: rest))) : W p l e R s m args below meth c H locs cells slots Q (F0 m pc ls (.int i :: .ref a :: rest)) := by
  have hlt : i.toNatClampNeg < n := Nat.not_le.mp fun q => hin (Or.inr q)
  exact W.aald (v := va_rf (f i.toNatClampNeg)) (ty := .array .int) hexec hb (hP q0 _ ha) ((hK.2 t0 _ ht).1 n (fun j => va_rf (f j))) rfl (fun q => by cases q) (by show ¬ (i < 0 ∨ (arrV _ _ _).slots.size ≤ _); rw [arrV_size]; exact hin) (by show (arrV _ _ _).slots[_]? = _; rw [arrV_read _ _ hlt]) rfl rfl hdg kk
theorem narC {v : Int} (h : 0 ≤ v ∧ v < 65536) : vp_nar .char (Int32.ofInt v) = Int32.ofInt v := by
  rw [vp_nar_char, ← lg_i2c_nf]
  exact lg_i2c_word (by rw [oI (by constructor <;> omega)]; exact h.1) (by rw [oI (by constructor <;> omega)]; exact h.2)
theorem narZ {v : Int} (h : v = 0 ∨ v = 1) : vp_nar .boolean (Int32.ofInt v) = Int32.ofInt v := by
  rcases h with rfl | rfl <;> rfl
section
variable {p : Program} {l : Launch} {e : Env} {R : Room} {s : State} {m : MethodId} {args : Array Value} {below : List Frame} {meth : Method} {c : Code} {cells slots : Nat} {Q : State → Prop} {D : va_G} {cy : Nat → ClassId} {ad : Nat → Nat → Nat} {A : Nat → Prop} {cc : ByteArray} {nL : Nat}
/-- the script is the one cell of its kind -/
theorem ref56 {t i : Nat} (h : okV (.inr (.inl (t, i)))) (ht : t = 56) : i = 0 := by
  subst ht
  rcases h with h | h
  · exact absurd (cnt_lt h) (Nat.lt_irrefl 56)
  · exact (Prod.mk.inj h).2
theorem refN {t i : Nat} (h : okV (.inr (.inl (t, i)))) (ht : t ≠ 56) : i < cnt t := by
  rcases h with h | h
  · exact h
  · exact absurd (Prod.mk.inj h).1 ht
theorem ak56 {t : Nat} {q : Nat × Nat} (h : ak t = some q) : t ≠ 56 := by
  rintro rfl
  cases h
theorem ak_sm {t : Nat} {q : Nat × Nat} (h : ak t = some q) {i : Nat} (h2 : okV (.inr (.inl (t, i)))) : q.2 < 2 ^ 31 := by
  have := ak_small t (cnt_lt (refN h2 (ak56 h))) q h
  omega
theorem vp_inA {t i n k : Nat} {x : Int} (h : ak t = some (k, n)) (h2 : okV (.inr (.inl (t, i)))) (hx : 0 ≤ x ∧ x < n) : vp_in (Int32.ofInt x) n := vp_inO hx.1 hx.2 (ak_sm h h2)
theorem clA {t i n k : Nat} {x : Int} (h : ak t = some (k, n)) (h2 : okV (.inr (.inl (t, i)))) (hx : 0 ≤ x ∧ x < n) : (Int32.ofInt x).toNatClampNeg = x.toNat := oClamp hx.1 (by have : n < 2 ^ 31 := ak_sm h h2; omega)
theorem cndI {cd : Jvm.ClassFile.Cond} {a b : Int} (ha : inR a) (hb : inR b) : True := trivial
theorem ok_up {t i q : Nat} {j v : Int} {e : va_E} {H H1 : Heap} {locs locs1 : List Loc} {H0 : Heap} {σ : Mem} (hO : Ok D cy ad A H0 H locs σ) (hv : inR v) (hq : cs[q]? = some (t, i)) (he : enc cy ad (up σ t i j v) t i = e) (hP : va_P D classes ((pool cy ad σ).set q (ad t i, e)) H1) (hS : va_S A H0 H1 locs1) : Ok D cy ad A H0 H1 locs1 (up σ t i j v) := by
  refine ⟨?_, hS, fun t' i' j' => ?_⟩
  · rw [← pool_set hq he up_other]
    exact hP
  · unfold up
    split
    · exact hv
    · exact hO.2.2 _ _ _
set_option maxHeartbeats 8000000 in
theorem stp_sound {own : String} {M : MI} {K : Option Int → Mem → Prop} (X : Cx p l e R s m args below meth c cells slots Q D cy ad A cc nL own M K) {N : LL → List AV → Mem → Prop} {J : Nat → LL → List AV → Mem → Prop} {pc len : Nat} {ins : Instr} {tg : List Nat} {L : LL} {S : List AV} {σ : Mem}
    (hd : decode cc pc = .ok (ins, len)) (hlen : ilen ins = none ∨ ilen ins = some len) (htg : tgOK pc tg ins = true) (h : stp M K N J tg L S σ ins)
    (hN : ∀ L' S' σ', N L' S' σ' → Gd p l e R s m args below meth c cells slots Q D cy ad A nL (pc + len) L' S' σ')
    (hJ : ∀ t L' S' σ', J t L' S' σ' → Gd p l e R s m args below meth c cells slots Q D cy ad A nL t L' S' σ') :
    Gd p l e R s m args below meth c cells slots Q D cy ad A nL pc L S σ := by
  obtain ⟨⟨hx, hb, hown, hts, hK, hDD⟩, hF, hC, hCL, hCR, hSc, hRI, hRV⟩ := X
  intro H locs ls hO hr hL hS
  have hP := hO.1
  have hSS := hO.2.1
  have hD := hDD σ
  cases ins <;> try exact (h : False).elim
  all_goals (rcases hlen with q | q <;> cases q)
  all_goals simp only [stp] at h
  case aload_n k =>
    split at h
    · rename_i _ x0 heq
      exact lv_aload_n hx hb hd rfl (rel_at hr heq) (hN _ _ _ h H locs ls hO hr hL (okS_push (hL _ _ heq) hS))
    · exact h.elim
  case aload k =>
    split at h
    · rename_i _ x0 heq
      exact lv_aload hx hb hd (rel_at hr heq) (hN _ _ _ h H locs ls hO hr hL (okS_push (hL _ _ heq) hS))
    · exact h.elim
  case iload_n k =>
    split at h
    · rename_i _ x0 heq
      exact lv_iload_n hx hb hd rfl (rel_at hr heq) (hN _ _ _ h H locs ls hO hr hL (okS_push (hL _ _ heq) hS))
    · exact h.elim
  case iload k =>
    split at h
    · rename_i _ x0 heq
      exact lv_iload hx hb hd (rel_at hr heq) (hN _ _ _ h H locs ls hO hr hL (okS_push (hL _ _ heq) hS))
    · exact h.elim
  case lload_n k =>
    split at h
    · rename_i _ x0 heq
      exact lv_lload_n hx hb hd rfl (rel_at hr heq) (hN _ _ _ h H locs ls hO hr hL (okS_push (hL _ _ heq) hS))
    · exact h.elim
  case lload k =>
    split at h
    · rename_i _ x0 heq
      exact lv_lload hx hb hd (rel_at hr heq) (hN _ _ _ h H locs ls hO hr hL (okS_push (hL _ _ heq) hS))
    · exact h.elim
  case istore_n k =>
    split at h
    · obtain ⟨h1, h2, h3⟩ := h
      obtain ⟨hv, hS'⟩ := okS_cons hS
      exact lv_istore_n hx hb hd rfl (rel_has hr) (by rw [← hr.1]; exact h1) rfl (fun ls' hl' => hN _ _ _ h3 H locs ls' hO (rel_store hr.1 h1 h2 hl') (okL_set hL hv h1) hS')
    · exact h.elim
  case istore k =>
    split at h
    · obtain ⟨h1, h2, h3⟩ := h
      obtain ⟨hv, hS'⟩ := okS_cons hS
      exact lv_istore hx hb hd (rel_has hr) (by rw [← hr.1]; exact h1) rfl (fun ls' hl' => hN _ _ _ h3 H locs ls' hO (rel_store hr.1 h1 h2 hl') (okL_set hL hv h1) hS')
    · exact h.elim
  case lstore_n k =>
    split at h
    · obtain ⟨h1, h2, h3⟩ := h
      obtain ⟨hv, hS'⟩ := okS_cons hS
      exact lv_lstore_n hx hb hd rfl (rel_has hr) (by rw [← hr.1]; exact h1) rfl (fun ls' hl' => hN _ _ _ h3 H locs ls' hO (rel_store2 hr.1 h1 h2 hl') (okL_set2 hL hv h1) hS')
    · exact h.elim
  case lstore k =>
    split at h
    · obtain ⟨h1, h2, h3⟩ := h
      obtain ⟨hv, hS'⟩ := okS_cons hS
      exact lv_lstore hx hb hd (rel_has hr) (by rw [← hr.1]; exact h1) rfl (fun ls' hl' => hN _ _ _ h3 H locs ls' hO (rel_store2 hr.1 h1 h2 hl') (okL_set2 hL hv h1) hS')
    · exact h.elim
  case iconst i =>
    exact lv_iconst hx hb hd rfl (hN _ _ _ h H locs ls hO hr hL (okS_push (v := .inl i) (inRb (by have := of_decide_eq_true htg; omega)) hS))
  case bipush i =>
    exact lv_bipush hx hb hd (bip (of_decide_eq_true htg)) (hN _ _ _ h H locs ls hO hr hL (okS_push (v := .inl i) (inRb (by have := of_decide_eq_true htg; omega)) hS))
  case sipush i =>
    exact lv_sipush hx hb hd (sip (of_decide_eq_true htg)) (hN _ _ _ h H locs ls hO hr hL (okS_push (v := .inl i) (inRb (by have := of_decide_eq_true htg; omega)) hS))
  case ldc k =>
    split at h
    · rename_i _ x heq
      exact lv_ldc hx hb hown (hC _ _ heq).2 hd (hN _ _ _ h H locs ls hO hr hL (okS_push (v := .inl x) (hC _ _ heq).1 hS))
    · exact h.elim
  case ldc2_w k =>
    split at h
    · rename_i _ x heq
      exact lv_ldc2 hx hb hown (hCL _ _ heq) hd (hN _ _ _ h H locs ls hO hr hL (okS_push (v := .inr (.inr x)) trivial hS))
    · exact h.elim
  case lconst i =>
    exact lv_lconst hx hb hd rfl (hN _ _ _ h H locs ls hO hr hL (okS_push (v := .inr (.inr _)) trivial hS))
  case dup =>
    split at h
    · obtain ⟨hv, hS'⟩ := okS_cons hS
      exact lv_dup hx hb hd rfl (hN _ _ _ h H locs ls hO hr hL (okS_push hv hS))
    · obtain ⟨hv, hS'⟩ := okS_cons hS
      exact lv_dup hx hb hd rfl (hN _ _ _ h H locs ls hO hr hL (okS_push hv hS))
    · exact h.elim
  case pop =>
    split at h
    · obtain ⟨hv, hS'⟩ := okS_cons hS
      exact lv_pop hx hb hd rfl (hN _ _ _ h H locs ls hO hr hL hS')
    · exact h.elim
  case dup2 =>
    split at h
    · obtain ⟨hv, hS'⟩ := okS_cons hS
      obtain ⟨hw, -⟩ := okS_cons hS'
      exact lv_dup2_11 hx hb hd rfl rfl (hN _ _ _ h H locs ls hO hr hL (okS_push hv (okS_push hw hS)))
    · exact h.elim
  case iadd =>
    split at h
    · rename_i b a S'
      obtain ⟨hv, hS'⟩ := okS_cons hS
      obtain ⟨hw, hS''⟩ := okS_cons hS'
      refine lv_iadd hx hb hd ?_
      rw [oAdd]
      exact hN _ _ _ h.2 H locs ls hO hr hL (okS_push (v := .inl (a + b)) h.1 hS'')
    · exact h.elim
  case isub =>
    split at h
    · rename_i b a S'
      obtain ⟨hv, hS'⟩ := okS_cons hS
      obtain ⟨hw, hS''⟩ := okS_cons hS'
      refine lv_isub hx hb hd ?_
      rw [oSub]
      exact hN _ _ _ h.2 H locs ls hO hr hL (okS_push (v := .inl (a - b)) h.1 hS'')
    · exact h.elim
  case imul =>
    split at h
    · rename_i b a S'
      obtain ⟨hv, hS'⟩ := okS_cons hS
      obtain ⟨hw, hS''⟩ := okS_cons hS'
      refine lv_imul hx hb hd ?_
      rw [oMul]
      exact hN _ _ _ h.2 H locs ls hO hr hL (okS_push (v := .inl (a * b)) h.1 hS'')
    · exact h.elim
  case idiv =>
    split at h
    · rename_i b a S'
      obtain ⟨hv, hS'⟩ := okS_cons hS
      obtain ⟨hw, hS''⟩ := okS_cons hS'
      refine lv_idiv hx hb hd (fun q => ?_) ?_
      · have := (oEq hv inR0).mp q
        have := h.2.1
        omega
      rw [oDiv h.1 h.2.1 hw hv]
      exact hN _ _ _ h.2.2 H locs ls hO hr hL (okS_push (v := .inl (a / b)) (inRd h.1 h.2.1 hw) hS'')
    · exact h.elim
  case irem =>
    split at h
    · rename_i b a S'
      obtain ⟨hv, hS'⟩ := okS_cons hS
      obtain ⟨hw, hS''⟩ := okS_cons hS'
      refine lv_irem hx hb hd (fun q => ?_) ?_
      · have := (oEq hv inR0).mp q
        have := h.2.1
        omega
      rw [oRem h.1 h.2.1 hw hv]
      exact hN _ _ _ h.2.2 H locs ls hO hr hL (okS_push (v := .inl (a % b)) (inRm h.2.1 hv) hS'')
    · exact h.elim
  case iand =>
    split at h
    · rename_i b a S'
      obtain ⟨hv, hS'⟩ := okS_cons hS
      obtain ⟨hw, hS''⟩ := okS_cons hS'
      refine lv_iand hx hb hd ?_
      have q := hN _ _ _ h H locs ls hO hr hL (okS_push (v := .inl (band a b)) (show inR (band a b) by rw [band_eq]; exact inR_t _) hS'')
      simp only [List.map_cons, vV, band_eq, oT] at q
      exact q
    · exact h.elim
  case ior =>
    split at h
    · rename_i b a S'
      obtain ⟨hv, hS'⟩ := okS_cons hS
      obtain ⟨hw, hS''⟩ := okS_cons hS'
      refine lv_ior hx hb hd ?_
      have q := hN _ _ _ h H locs ls hO hr hL (okS_push (v := .inl (bor a b)) (show inR (bor a b) by rw [bor_eq]; exact inR_t _) hS'')
      simp only [List.map_cons, vV, bor_eq, oT] at q
      exact q
    · exact h.elim
  case ixor =>
    split at h
    · rename_i b a S'
      obtain ⟨hv, hS'⟩ := okS_cons hS
      obtain ⟨hw, hS''⟩ := okS_cons hS'
      refine lv_ixor hx hb hd ?_
      have q := hN _ _ _ h H locs ls hO hr hL (okS_push (v := .inl (bxor a b)) (show inR (bxor a b) by rw [bxor_eq]; exact inR_t _) hS'')
      simp only [List.map_cons, vV, bxor_eq, oT] at q
      exact q
    · exact h.elim
  case ishl =>
    split at h
    · rename_i b a S'
      obtain ⟨hv, hS'⟩ := okS_cons hS
      obtain ⟨hw, hS''⟩ := okS_cons hS'
      refine lv_ishl hx hb hd ?_
      have q := hN _ _ _ h H locs ls hO hr hL (okS_push (v := .inl (bshl a b)) (show inR (bshl a b) by rw [bshl_eq]; exact inR_t _) hS'')
      simp only [List.map_cons, vV, bshl_eq, oT] at q
      exact q
    · exact h.elim
  case ishr =>
    split at h
    · rename_i b a S'
      obtain ⟨hv, hS'⟩ := okS_cons hS
      obtain ⟨hw, hS''⟩ := okS_cons hS'
      refine lv_ishr hx hb hd ?_
      have q := hN _ _ _ h H locs ls hO hr hL (okS_push (v := .inl (bshr a b)) (show inR (bshr a b) by rw [bshr_eq]; exact inR_t _) hS'')
      simp only [List.map_cons, vV, bshr_eq, oT] at q
      exact q
    · exact h.elim
  case i2c =>
    split at h
    · rename_i a S'
      obtain ⟨hv, hS'⟩ := okS_cons hS
      refine lv_i2c hx hb hd rfl ?_
      have q := hN _ _ _ h H locs ls hO hr hL (okS_push (v := .inl (bchr a)) (show inR (bchr a) by rw [bchr_eq]; exact inR_t _) hS')
      simp only [List.map_cons, vV, bchr_eq, oT] at q
      exact q
    · exact h.elim
  case i2l =>
    split at h
    · obtain ⟨hv, hS'⟩ := okS_cons hS
      exact lv_i2l hx hb hd rfl (hN _ _ _ h H locs ls hO hr hL (okS_push (v := .inr (.inr _)) trivial hS'))
    · exact h.elim
  case l2i =>
    split at h
    · rename_i a S'
      obtain ⟨hv, hS'⟩ := okS_cons hS
      refine lv_l2i hx hb hd rfl ?_
      have q := hN _ _ _ h H locs ls hO hr hL (okS_push (v := .inl a.toInt32.toInt) (inR_t _) hS')
      simp only [List.map_cons, vV, oT] at q
      exact q
    · exact h.elim
  case land =>
    split at h
    · obtain ⟨hv, hS'⟩ := okS_cons hS
      obtain ⟨hw, hS''⟩ := okS_cons hS'
      exact lv_land hx hb hd (hN _ _ _ h H locs ls hO hr hL (okS_push (v := .inr (.inr _)) trivial hS''))
    · exact h.elim
  case lor =>
    split at h
    · obtain ⟨hv, hS'⟩ := okS_cons hS
      obtain ⟨hw, hS''⟩ := okS_cons hS'
      exact lv_lor hx hb hd (hN _ _ _ h H locs ls hO hr hL (okS_push (v := .inr (.inr _)) trivial hS''))
    · exact h.elim
  case lshl =>
    split at h
    · obtain ⟨hv, hS'⟩ := okS_cons hS
      obtain ⟨hw, hS''⟩ := okS_cons hS'
      exact lv_lshl hx hb hd rfl (hN _ _ _ h H locs ls hO hr hL (okS_push (v := .inr (.inr _)) trivial hS''))
    · exact h.elim
  case lshr =>
    split at h
    · obtain ⟨hv, hS'⟩ := okS_cons hS
      obtain ⟨hw, hS''⟩ := okS_cons hS'
      exact lv_lshr hx hb hd rfl (hN _ _ _ h H locs ls hO hr hL (okS_push (v := .inr (.inr _)) trivial hS''))
    · exact h.elim
  case lushr =>
    split at h
    · obtain ⟨hv, hS'⟩ := okS_cons hS
      obtain ⟨hw, hS''⟩ := okS_cons hS'
      exact lv_lushr hx hb hd rfl (hN _ _ _ h H locs ls hO hr hL (okS_push (v := .inr (.inr _)) trivial hS''))
    · exact h.elim
  case lcmp =>
    split at h
    · rename_i b a S'
      obtain ⟨hv, hS'⟩ := okS_cons hS
      obtain ⟨hw, hS''⟩ := okS_cons hS'
      refine W.lcmp hx hb hd ?_
      have q := hN _ _ _ h H locs ls hO hr hL (okS_push (v := .inl (lg_cmp a b).toInt) (inR_t _) hS'')
      simp only [List.map_cons, vV, oT] at q
      exact q
    · exact h.elim
  case iinc k n =>
    split at h
    · rename_i _ x heq
      obtain ⟨h1, h2, h3⟩ := h
      obtain ⟨j, hj⟩ := List.getElem?_of_mem (lp_mem (ad := ad) heq)
      have hlt := lget_lt heq
      exact lv_iinc (v := Int32.ofInt (x + n)) hx hb hd (rel_has hr) hj (oAdd x n) (by rw [← hr.1]; exact hlt) rfl (fun ls' hl' => hN _ _ _ h3 H locs ls' hO (rel_store (v := .inl (x + n)) hr.1 hlt h1 hl') (okL_set (v := .inl (x + n)) hL h2 hlt) hS)
    · exact h.elim
  case goto o =>
    split at h
    · rename_i t
      refine lv_goto (tgt := t) hx hb hd ?_ (hJ _ _ _ _ h H locs ls hO hr hL hS)
      simpa [tgOK] using htg
    · exact h.elim
  case ifCond cd o =>
    split at h
    · rename_i t a S'
      have ht : (pc : Int) + o = (t : Int) := by simpa [tgOK] using htg
      obtain ⟨hv, hS'⟩ := okS_cons hS
      cases cd
      · exact lv_if_eq (tgt := t) hx hb hd ht (fun q => hJ _ _ _ _ (h.1 ((oEq hv inR0).mp q)) H locs ls hO hr hL hS') (fun q => hN _ _ _ (h.2 (fun z => q ((oEq hv inR0).mpr z))) H locs ls hO hr hL hS')
      · exact lv_if_ne (tgt := t) hx hb hd ht (fun q => hJ _ _ _ _ (h.1 (fun z => q ((oEq hv inR0).mpr z))) H locs ls hO hr hL hS') (fun q => hN _ _ _ (h.2 (fun z => z ((oEq hv inR0).mp q))) H locs ls hO hr hL hS')
      · exact lv_if_lt (tgt := t) hx hb hd ht (fun q => hJ _ _ _ _ (h.1 ((oLt hv inR0).mp q)) H locs ls hO hr hL hS') (fun q => hN _ _ _ (h.2 (fun z => q ((oLt hv inR0).mpr z))) H locs ls hO hr hL hS')
      · exact lv_if_ge (tgt := t) hx hb hd ht (fun q => hJ _ _ _ _ (h.1 ((oLe inR0 hv).mp q)) H locs ls hO hr hL hS') (fun q => hN _ _ _ (h.2 (fun z => q ((oLe inR0 hv).mpr z))) H locs ls hO hr hL hS')
      · exact lv_if_gt (tgt := t) hx hb hd ht (fun q => hJ _ _ _ _ (h.1 ((oLt inR0 hv).mp q)) H locs ls hO hr hL hS') (fun q => hN _ _ _ (h.2 (fun z => q ((oLt inR0 hv).mpr z))) H locs ls hO hr hL hS')
      · exact lv_if_le (tgt := t) hx hb hd ht (fun q => hJ _ _ _ _ (h.1 ((oLe hv inR0).mp q)) H locs ls hO hr hL hS') (fun q => hN _ _ _ (h.2 (fun z => q ((oLe hv inR0).mpr z))) H locs ls hO hr hL hS')
    · exact h.elim
  case if_icmp cd o =>
    split at h
    · rename_i t b a S'
      have ht : (pc : Int) + o = (t : Int) := by simpa [tgOK] using htg
      obtain ⟨hv, hS'⟩ := okS_cons hS
      obtain ⟨hw, hS''⟩ := okS_cons hS'
      cases cd
      · exact lv_icmp_eq (tgt := t) hx hb hd ht (fun q => hJ _ _ _ _ (h.1 ((oEq hw hv).mp q)) H locs ls hO hr hL hS'') (fun q => hN _ _ _ (h.2 (fun z => q ((oEq hw hv).mpr z))) H locs ls hO hr hL hS'')
      · exact lv_icmp_ne (tgt := t) hx hb hd ht (fun q => hJ _ _ _ _ (h.1 (fun z => q ((oEq hw hv).mpr z))) H locs ls hO hr hL hS'') (fun q => hN _ _ _ (h.2 (fun z => z ((oEq hw hv).mp q))) H locs ls hO hr hL hS'')
      · exact lv_icmp_lt (tgt := t) hx hb hd ht (fun q => hJ _ _ _ _ (h.1 ((oLt hw hv).mp q)) H locs ls hO hr hL hS'') (fun q => hN _ _ _ (h.2 (fun z => q ((oLt hw hv).mpr z))) H locs ls hO hr hL hS'')
      · exact lv_icmp_ge (tgt := t) hx hb hd ht (fun q => hJ _ _ _ _ (h.1 ((oLe hv hw).mp q)) H locs ls hO hr hL hS'') (fun q => hN _ _ _ (h.2 (fun z => q ((oLe hv hw).mpr z))) H locs ls hO hr hL hS'')
      · exact lv_icmp_gt (tgt := t) hx hb hd ht (fun q => hJ _ _ _ _ (h.1 ((oLt hv hw).mp q)) H locs ls hO hr hL hS'') (fun q => hN _ _ _ (h.2 (fun z => q ((oLt hv hw).mpr z))) H locs ls hO hr hL hS'')
      · exact lv_icmp_le (tgt := t) hx hb hd ht (fun q => hJ _ _ _ _ (h.1 ((oLe hw hv).mp q)) H locs ls hO hr hL hS'') (fun q => hN _ _ _ (h.2 (fun z => q ((oLe hw hv).mpr z))) H locs ls hO hr hL hS'')
    · exact h.elim
  case ifnull o =>
    split at h
    · exact lv_ifnull hx hb hd (hN _ _ _ h H locs ls hO hr hL (okS_cons hS).2)
    · exact h.elim
  case ifnonnull o =>
    split at h
    · rename_i t _ S'
      exact lv_ifnonnull (tgt := t) hx hb hd (by simpa [tgOK] using htg) (hJ _ _ _ _ h H locs ls hO hr hL (okS_cons hS).2)
    · exact h.elim
  case tableswitch df lo hi os =>
    split at h
    · rename_i d ts x S'
      obtain ⟨hv, hS'⟩ := okS_cons hS
      simp only [tgOK, List.map_cons, Bool.and_eq_true, beq_iff_eq, List.cons.injEq] at htg
      obtain ⟨hhi, hd0, hos⟩ := htg
      have hle : os.size = ts.length := by
        have := congrArg List.length hos
        simpa using this
      by_cases hin : x < lo ∨ lo + ts.length ≤ x
      · exact lv_tableOut (tgt := d) hx hb hd (by rw [oI hv]; omega) hd0 (hJ _ _ _ _ (h.2 hin) H locs ls hO hr hL hS')
      · have hn : (x - lo).toNat < ts.length := by omega
        have e1 : ts[(x - lo).toNat]? = some ts[(x - lo).toNat] := List.getElem?_eq_getElem hn
        have e2 : os[(x - lo).toNat]? = some (os[(x - lo).toNat]'(by omega)) := Array.getElem?_eq_getElem (by omega)
        have e3 : (pc : Int) + (os[(x - lo).toNat]'(by omega)) = ((ts[(x - lo).toNat] : Nat) : Int) := by
          have := congrArg (fun l => l[(x - lo).toNat]?) hos
          simp only [List.getElem?_map, e1, Array.getElem?_toList, e2, Option.map_some, Option.some.injEq] at this
          exact this
        exact lv_tableIn (tgt := ts[(x - lo).toNat]) hx hb hd (by rw [oI hv]; omega) (by rw [oI hv]; omega) (by rw [oI hv]; exact e2) e3 (hJ _ _ _ _ (swt_at h.1 e1 (by omega)) H locs ls hO hr hL hS')
    · exact h.elim
  case getfield k =>
    split at h
    · rename_i t j z t' i S' heq
      obtain ⟨rfl, h⟩ := h
      obtain ⟨hv, hS'⟩ := okS_cons hS
      obtain ⟨q, hq, rfl, hj, hlk⟩ := hF _ _ _ _ heq
      obtain ⟨hn, h8, hws, hnm, ty, hty, hfi⟩ := cls_ok _ _ hq
      have hi := refN hv (by omega)
      obtain ⟨q0, hc0, hp0⟩ := pool_at cy ad σ hi
      rw [enc_obj h8] at hp0
      have hjn : j < fN t' := by rw [← hn]; exact hj
      refine va_get (C := q.1) (T := q.2.1) (N := q.2.2) (ci := t') (v := fV ad σ t' i j) hx hb hts hws hown hK hP q0 hp0 hq j hj hlk (fun _ z => z) (by rw [List.getElem?_map, List.getElem?_range hjn]; rfl) hd ?_
      unfold fV
      cases hf : fp t' j with
      | none =>
        rw [hf] at h
        exact hN _ _ _ h H locs ls hO hr hL (okS_push (v := .inl (σ t' i j)) (hO.2.2 _ _ _) hS')
      | some r =>
        rw [hf] at h
        exact hN _ _ _ h H locs ls hO hr hL (okS_push (v := .inr (.inl (r.1, i + r.2))) (Or.inl (fp_ok _ h8 _ hi _ hjn _ hf)) hS')
    · exact h.elim
  case putfield k =>
    split at h
    · rename_i t j z x t' i S' heq
      obtain ⟨rfl, hf, hz, h⟩ := h
      obtain ⟨hx1, hS1⟩ := okS_cons hS
      obtain ⟨hv, hS'⟩ := okS_cons hS1
      obtain ⟨q, hq, rfl, hj, hlk⟩ := hF _ _ _ _ heq
      obtain ⟨hn, h8, hws, hnm, ty, hty, hfi⟩ := cls_ok _ _ hq
      have hi := refN hv (by omega)
      obtain ⟨q0, hc0, hp0⟩ := pool_at cy ad σ hi
      rw [enc_obj h8] at hp0
      have hjn : j < fN t' := by rw [← hn]; exact hj
      have hnf : narrow (ty j) (.int (Int32.ofInt x)) = .int (Int32.ofInt x) ∧ fits (ty j) (.int (Int32.ofInt x)) = true := by
        rw [(hfi j hj hf).2]
        cases hzz : isZ t' j with
        | false => exact ⟨rfl, rfl⟩
        | true => rcases hz hzz with rfl | rfl <;> exact ⟨rfl, rfl⟩
      refine va_put (C := q.1) (T := q.2.1) (N := q.2.2) (ci := t') (v := .int (Int32.ofInt x)) (ty := ty j) hx hb hts hws ty hty hnm hown hK hP hD hSS q0 hp0 hq j hj hlk (fun _ z => z) (hfi j hj hf).1 (hty j hj) hnf.1 hnf.2 (by simpa using hjn) hd (fun H1 locs1 hP1 hD1 hS2 => ?_)
      exact hN _ _ _ h H1 locs1 ls (ok_up hO hx1 hc0 (up_obj h8 hf) hP1 hS2) hr hL hS'
    · exact h.elim
  case iaload =>
    split at h
    · rename_i x t i S'
      obtain ⟨hx1, hS1⟩ := okS_cons hS
      obtain ⟨hv, hS'⟩ := okS_cons hS1
      split at h
      · rename_i n hk
        obtain ⟨h1, h2⟩ := h
        obtain ⟨q0, hc0, hp0⟩ := pool_at cy ad σ (refN hv (ak56 hk))
        rw [enc_arr hk (by omega)] at hp0
        have q := va_iald (ls := ls) (rest := S'.map (vV ad)) hx hb hK hP q0 0 hp0 rfl (vp_inA hk hv h1) hd (Q := Q) (cells := cells) (slots := slots) (locs := locs) (l := l) (e := e) (R := R) (below := below) (meth := meth) (m := m) (args := args)
        rw [clA hk hv h1, Int.toNat_of_nonneg h1.1] at q
        exact q (hN _ _ _ h2 H locs ls hO hr hL (okS_push (v := .inl (σ t i x)) (hO.2.2 _ _ _) hS'))
      · exact h.elim
      · obtain ⟨rfl, hz, h1, h2⟩ := h
        obtain ⟨hX, hbl, hbA, hsm, hxr⟩ := hSc hz
        have hi0 := ref56 hv rfl
        subst hi0
        have q := va_sld (ls := ls) (rest := S'.map (vV ad)) hx hb hX hbl hbA hSS (vp_inO h1.1 h1.2 hsm) hd (Q := Q) (cells := cells) (slots := slots) (l := l) (e := e) (R := R) (below := below) (meth := meth) (m := m) (args := args)
        rw [oClamp h1.1 (by omega), Int.toNat_of_nonneg h1.1] at q
        exact q (hN _ _ _ h2 H locs ls hO hr hL (okS_push (v := .inl (M.2.2.2.2.2.2 x)) (hxr _) hS'))
    · exact h.elim
  case caload =>
    split at h
    · rename_i x t i S'
      obtain ⟨hx1, hS1⟩ := okS_cons hS
      obtain ⟨hv, hS'⟩ := okS_cons hS1
      split at h
      · rename_i n hk
        obtain ⟨h1, h2⟩ := h
        obtain ⟨q0, hc0, hp0⟩ := pool_at cy ad σ (refN hv (ak56 hk))
        rw [enc_arr hk (by omega)] at hp0
        have q := va_cald (ls := ls) (rest := S'.map (vV ad)) hx hb hK hP q0 1 hp0 rfl (vp_inA hk hv h1) hd (Q := Q) (cells := cells) (slots := slots) (locs := locs) (l := l) (e := e) (R := R) (below := below) (meth := meth) (m := m) (args := args)
        rw [clA hk hv h1, Int.toNat_of_nonneg h1.1] at q
        exact q (hN _ _ _ h2 H locs ls hO hr hL (okS_push (v := .inl (σ t i x)) (hO.2.2 _ _ _) hS'))
      · exact h.elim
    · exact h.elim
  case baload =>
    split at h
    · rename_i x t i S'
      obtain ⟨hx1, hS1⟩ := okS_cons hS
      obtain ⟨hv, hS'⟩ := okS_cons hS1
      split at h
      · rename_i n hk
        obtain ⟨h1, h2⟩ := h
        obtain ⟨q0, hc0, hp0⟩ := pool_at cy ad σ (refN hv (ak56 hk))
        rw [enc_arr hk (by omega)] at hp0
        have q := va_zald (ls := ls) (rest := S'.map (vV ad)) hx hb hK hP q0 2 hp0 rfl (vp_inA hk hv h1) hd (Q := Q) (cells := cells) (slots := slots) (locs := locs) (l := l) (e := e) (R := R) (below := below) (meth := meth) (m := m) (args := args)
        rw [clA hk hv h1, Int.toNat_of_nonneg h1.1] at q
        exact q (hN _ _ _ h2 H locs ls hO hr hL (okS_push (v := .inl (σ t i x)) (hO.2.2 _ _ _) hS'))
      · exact h.elim
    · exact h.elim
  case iastore =>
    split at h
    · rename_i v x t i S'
      obtain ⟨hvv, hS0⟩ := okS_cons hS
      obtain ⟨hx1, hS1⟩ := okS_cons hS0
      obtain ⟨hv, hS'⟩ := okS_cons hS1
      split at h
      · rename_i n hk
        obtain ⟨h1, h2⟩ := h
        obtain ⟨q0, hc0, hp0⟩ := pool_at cy ad σ (refN hv (ak56 hk))
        rw [enc_arr hk (by omega)] at hp0
        refine va_iast hx hb hK hP hD hSS q0 0 hp0 rfl (vp_inA hk hv h1) hd (fun H1 locs1 hP1 hD1 hS2 => ?_)
        rw [clA hk hv h1] at hP1
        exact hN _ _ _ h2 H1 locs1 ls (ok_up hO hvv hc0 (up_arr hk (by omega) h1.1) hP1 hS2) hr hL hS'
      · exact h.elim
    · exact h.elim
  case castore =>
    split at h
    · rename_i v x t i S'
      obtain ⟨hvv, hS0⟩ := okS_cons hS
      obtain ⟨hx1, hS1⟩ := okS_cons hS0
      obtain ⟨hv, hS'⟩ := okS_cons hS1
      split at h
      · rename_i n hk
        obtain ⟨h1, hz, h2⟩ := h
        obtain ⟨q0, hc0, hp0⟩ := pool_at cy ad σ (refN hv (ak56 hk))
        rw [enc_arr hk (by omega)] at hp0
        refine va_cast hx hb hK hP hD hSS q0 1 hp0 rfl (vp_inA hk hv h1) hd (fun H1 locs1 hP1 hD1 hS2 => ?_)
        rw [clA hk hv h1] at hP1
        rw [narC hz] at hP1
        exact hN _ _ _ h2 H1 locs1 ls (ok_up hO hvv hc0 (up_arr hk (by omega) h1.1) hP1 hS2) hr hL hS'
      · exact h.elim
    · exact h.elim
  case bastore =>
    split at h
    · rename_i v x t i S'
      obtain ⟨hvv, hS0⟩ := okS_cons hS
      obtain ⟨hx1, hS1⟩ := okS_cons hS0
      obtain ⟨hv, hS'⟩ := okS_cons hS1
      split at h
      · rename_i n hk
        obtain ⟨h1, hz, h2⟩ := h
        obtain ⟨q0, hc0, hp0⟩ := pool_at cy ad σ (refN hv (ak56 hk))
        rw [enc_arr hk (by omega)] at hp0
        refine va_zast hx hb hK hP hD hSS q0 2 hp0 rfl (vp_inA hk hv h1) hd (fun H1 locs1 hP1 hD1 hS2 => ?_)
        rw [clA hk hv h1] at hP1
        rw [narZ hz] at hP1
        exact hN _ _ _ h2 H1 locs1 ls (ok_up hO hvv hc0 (up_arr hk (by omega) h1.1) hP1 hS2) hr hL hS'
      · exact h.elim
    · exact h.elim
  case aaload =>
    split at h
    · rename_i x t i S'
      obtain ⟨hx1, hS1⟩ := okS_cons hS
      obtain ⟨hv, hS'⟩ := okS_cons hS1
      split at h
      · rename_i n hk
        obtain ⟨h1, h2⟩ := h
        have hi := refN hv (ak56 hk)
        obtain ⟨q0, hc0, hp0⟩ := pool_at cy ad σ hi
        rw [enc_ref hk (by omega)] at hp0
        have q := va_aldq (C := "BottleneckShop$State") (ls := ls) (rest := S'.map (vV ad)) hx hb hK hP q0 3 hp0 rfl (vp_inA hk hv h1) hd (Q := Q) (cells := cells) (slots := slots) (locs := locs) (l := l) (e := e) (R := R) (below := below) (meth := meth) (m := m) (args := args)
        rw [clA hk hv h1] at q
        exact q (hN _ _ _ h2 H locs ls hO hr hL (okS_push (v := .inr (.inl (el t i x.toNat))) (Or.inl (el_ok hk (by omega) hi (by omega))) hS'))
      · rename_i n hk
        obtain ⟨h1, h2⟩ := h
        have hi := refN hv (ak56 hk)
        obtain ⟨q0, hc0, hp0⟩ := pool_at cy ad σ hi
        rw [enc_ref hk (by omega)] at hp0
        have q := va_aldqA (ls := ls) (rest := S'.map (vV ad)) hx hb hK hP q0 4 hp0 rfl (vp_inA hk hv h1) hd (Q := Q) (cells := cells) (slots := slots) (locs := locs) (l := l) (e := e) (R := R) (below := below) (meth := meth) (m := m) (args := args)
        rw [clA hk hv h1] at q
        exact q (hN _ _ _ h2 H locs ls hO hr hL (okS_push (v := .inr (.inl (el t i x.toNat))) (Or.inl (el_ok hk (by omega) hi (by omega))) hS'))
      · exact h.elim
    · exact h.elim
  case arraylength =>
    split at h
    · rename_i t i S'
      obtain ⟨hv, hS'⟩ := okS_cons hS
      split at h
      · rename_i n hk
        have hn := ak_sm hk hv
        obtain ⟨q0, hc0, hp0⟩ := pool_at cy ad σ (refN hv (ak56 hk))
        rw [enc_arr hk (by omega)] at hp0
        exact va_alen hx hb hK hP q0 0 hp0 rfl rfl hd (hN _ _ _ h H locs ls hO hr hL (okS_push (v := .inl (n : Int)) (by show inR _; constructor <;> omega) hS'))
      · exact h.elim
      · obtain ⟨rfl, hz, h2⟩ := h
        obtain ⟨hX, hbl, hbA, hsm, hxr⟩ := hSc hz
        have hi0 := ref56 hv rfl
        subst hi0
        exact va_slen hx hb hX hbl hbA hSS hd (hN _ _ _ h2 H locs ls hO hr hL (okS_push (v := .inl (M.2.2.2.2.2.1 : Int)) (by show inR _; constructor <;> omega) hS'))
    · exact h.elim
  case invokevirtual k =>
    split at h
    · rename_i _ n ci T heq
      obtain ⟨hci, h1, h2, h0, h3⟩ := h
      have e0 : S = (S.take n).reverse.reverse ++ S.drop n := by rw [List.reverse_reverse, List.take_append_drop]
      have hT : okS (S.take n).reverse := fun v hv => hS v (List.mem_of_mem_take (List.mem_reverse.mp hv))
      have hR' : okS (S.drop n) := fun v hv => hS v (List.mem_of_mem_drop hv)
      rw [show S.map (vV ad) = ((S.take n).reverse.reverse ++ S.drop n).map (vV ad) by rw [← e0]]
      refine (hCR _ _ _ _ heq).1 hci pc H locs ls σ (S.take n).reverse (S.drop n) _ hd hO hr.2.2.1 (by rw [List.length_reverse, List.length_take]; omega) hT h0 h3 (by rw [List.length_drop]; omega) (fun r σ' H' locs' hO' hr' hk => ?_)
      have q := hN _ _ _ hk H' locs' ls hO' hr hL (by
        intro v hv
        rcases List.mem_append.mp hv with hv | hv
        · cases r with
          | none => cases hv
          | some x =>
            rw [List.mem_singleton.mp hv]
            exact hr' x rfl
        · exact hR' v hv)
      cases r <;> exact q
    · exact h.elim
  case invokestatic k =>
    split at h
    · rename_i _ n ci T heq
      obtain ⟨hci, h1, h2, h3⟩ := h
      have h0 : True := trivial
      have e0 : S = (S.take n).reverse.reverse ++ S.drop n := by rw [List.reverse_reverse, List.take_append_drop]
      have hT : okS (S.take n).reverse := fun v hv => hS v (List.mem_of_mem_take (List.mem_reverse.mp hv))
      have hR' : okS (S.drop n) := fun v hv => hS v (List.mem_of_mem_drop hv)
      rw [show S.map (vV ad) = ((S.take n).reverse.reverse ++ S.drop n).map (vV ad) by rw [← e0]]
      refine (hCR _ _ _ _ heq).2 hci pc H locs ls σ (S.take n).reverse (S.drop n) _ hd hO hr.2.2.1 (by rw [List.length_reverse, List.length_take]; omega) hT h0 h3 (by rw [List.length_drop]; omega) (fun r σ' H' locs' hO' hr' hk => ?_)
      have q := hN _ _ _ hk H' locs' ls hO' hr hL (by
        intro v hv
        rcases List.mem_append.mp hv with hv | hv
        · cases r with
          | none => cases hv
          | some x =>
            rw [List.mem_singleton.mp hv]
            exact hr' x rfl
        · exact hR' v hv)
      cases r <;> exact q
    · exact h.elim
  case ireturn =>
    split at h
    · rename_i x
      exact hRI x pc H locs ls σ hd hO (okS_cons hS).1 h
    · exact h.elim
  case return_ =>
    split at h
    · exact hRV pc H locs ls σ hd hO h
    · exact h.elim
end
end
section
/-- a method's list of instructions, as the decoder says; each stands behind the one before it -/
abbrev chk (cc : ByteArray) (q : Nat × Instr × Nat × List Nat) : Prop := decode cc q.1 = .ok (q.2.1, q.2.2.1) ∧ (ilen q.2.1 = none ∨ ilen q.2.1 = some q.2.2.1) ∧ tgOK q.1 q.2.2.2 q.2.1 = true
def lnk : CL → Bool
  | q :: q2 :: r => q.1 + q.2.2.1 == q2.1 && lnk (q2 :: r)
  | _ => true
theorem lnk_tail {q : Nat × Instr × Nat × List Nat} {r : CL} (h : lnk (q :: r) = true) : lnk r = true := by
  cases r with
  | nil => rfl
  | cons q2 r =>
    simp only [lnk, Bool.and_eq_true] at h
    exact h.2
theorem lnk_next {q q2 : Nat × Instr × Nat × List Nat} {r : CL} (h : lnk (q :: q2 :: r) = true) : q2.1 = q.1 + q.2.2.1 := by
  simp only [lnk, Bool.and_eq_true, beq_iff_eq] at h
  exact h.1.symm
theorem drp_sub : ∀ {C : CL} {t : Nat} {q : Nat × Instr × Nat × List Nat}, q ∈ drp t C → q ∈ C
  | [], _, _, h => h
  | a :: r, t, q, h => by
    unfold drp at h
    split at h
    · exact h
    · exact List.mem_cons_of_mem _ (drp_sub h)
theorem drp_lnk : ∀ {C : CL} {t : Nat}, lnk C = true → lnk (drp t C) = true
  | [], _, h => h
  | a :: r, t, h => by
    unfold drp
    split
    · exact h
    · exact drp_lnk (lnk_tail h)
theorem drp_head : ∀ {C : CL} {t : Nat} {q : Nat × Instr × Nat × List Nat} {r : CL}, drp t C = q :: r → q.1 = t
  | [], _, _, _, h => by cases h
  | a :: r, t, q, r', h => by
    unfold drp at h
    split at h
    · rename_i hq
      cases h
      exact hq
    · exact drp_head h
section
variable {p : Program} {l : Launch} {e : Env} {R : Room} {s : State} {m : MethodId} {args : Array Value} {below : List Frame} {meth : Method} {c : Code} {cells slots : Nat} {Q : State → Prop} {D : va_G} {cy : Nat → ClassId} {ad : Nat → Nat → Nat} {A : Nat → Prop} {cc : ByteArray} {nL : Nat}
theorem wp_sound {own : String} {M : MI} {K : Option Int → Mem → Prop} (X : Cx p l e R s m args below meth c cells slots Q D cy ad A cc nL own M K) {C : CL} {cut : Cut} {bd : Nat → Prop} (hC : ∀ q ∈ C, chk cc q) (hl : lnk C = true)
    (hI : ∀ pc I L S σ k, cut pc = some I → bd k → I L S σ k → Gd p l e R s m args below meth c cells slots Q D cy ad A nL pc L S σ) :
    ∀ (n : Nat) (r : CL) (pc : Nat) (L : LL) (S : List AV) (σ : Mem), (∀ q ∈ r, q ∈ C) → lnk r = true → (∀ q r', r = q :: r' → q.1 = pc) → wp M C cut bd K n r L S σ → Gd p l e R s m args below meth c cells slots Q D cy ad A nL pc L S σ := by
  intro n
  induction n with
  | zero => intro r pc L S σ _ _ _ h; exact h.elim
  | succ n ih =>
    intro r pc L S σ hr hlr hpc h
    cases r with
    | nil => exact h.elim
    | cons q r =>
      obtain rfl := hpc q r rfl
      obtain ⟨h1, h2, h3⟩ := hC q (hr q List.mem_cons_self)
      refine stp_sound X h1 h2 h3 h ?_ ?_
      · intro L' S' σ' hN
        cases hcut : cut (q.1 + q.2.2.1) with
        | some I =>
          rw [hcut] at hN
          obtain ⟨k, hk, hi⟩ := hN
          exact hI _ I _ _ _ k hcut hk hi
        | none =>
          rw [hcut] at hN
          refine ih r _ L' S' σ' (fun z hz => hr z (List.mem_cons_of_mem _ hz)) (lnk_tail hlr) ?_ hN
          intro z r' hz
          subst hz
          exact lnk_next hlr
      · intro t L' S' σ' hJ
        cases hcut : cut t with
        | some I =>
          rw [hcut] at hJ
          obtain ⟨k, hk, hi⟩ := hJ
          exact hI _ I _ _ _ k hcut hk hi
        | none =>
          rw [hcut] at hJ
          exact ih (drp t C) t L' S' σ' (fun z hz => drp_sub hz) (drp_lnk hl) (fun z r' hz => drp_head hz) hJ
/-- Floyd: what holds at the cuts is kept, and its number falls -/
theorem floyd {own : String} {M : MI} {K : Option Int → Mem → Prop} (X : Cx p l e R s m args below meth c cells slots Q D cy ad A cc nL own M K) {C : CL} {cut : Cut} {f : Nat} (hC : ∀ q ∈ C, chk cc q) (hl : lnk C = true)
    (hS : ∀ pc I L S σ k, cut pc = some I → I L S σ k → wp M C cut (fun k' => k' < k) K f (drp pc C) L S σ) :
    ∀ (pc : Nat) (L : LL) (S : List AV) (σ : Mem), wp M C cut (fun _ => True) K f (drp pc C) L S σ → Gd p l e R s m args below meth c cells slots Q D cy ad A nL pc L S σ := by
  have key : ∀ (k : Nat) pc I L S σ, cut pc = some I → I L S σ k → Gd p l e R s m args below meth c cells slots Q D cy ad A nL pc L S σ := by
    intro k
    induction k using Nat.strongRecOn with
    | ind k ih =>
      intro pc I L S σ hcut hi
      exact wp_sound X hC hl (fun pc' I' L' S' σ' k' hc hk hi' => ih k' hk pc' I' L' S' σ' hc hi') f (drp pc C) pc L S σ (fun z hz => drp_sub hz) (drp_lnk hl) (fun z r' hz => drp_head hz) (hS pc I L S σ k hcut hi)
  intro pc L S σ h
  exact wp_sound X hC hl (fun pc' I' L' S' σ' k' hc _ hi' => key k' pc' I' L' S' σ' hc hi') f (drp pc C) pc L S σ (fun z hz => drp_sub hz) (drp_lnk hl) (fun z r' hz => drp_head hz) h
end
end
section
theorem good_sub {ws : List Cond} (h : ∀ w ∈ ws, w ∈ lw_g) : GoodIn lw_g ws := fun w hw => ⟨h w hw, good_of_word (List.mem_filter.mp (h w hw)).2⟩
def rmD (d : Nat) : Room := { frames := d, cells := 0, slots := 0, locals := 40 * d }
def wz (y : MethodName) (cc : ByteArray) (maxL : Nat) (ret : Option FieldType) : List Cond := .code y cc maxL ret :: lw_g
def As (ad : Nat → Nat → Nat) : Nat → Prop := fun q => ∃ t i, i < cnt t ∧ q = ad t i
def Wd (D : va_G) (cy : Nat → ClassId) (ad : Nat → Nat → Nat) (σ : Mem) (U : State) : Prop := va_P D classes (pool cy ad σ) U.heap ∧ va_K D classes (tysL cy) U ∧ va_D (fun _ => True) (pool cy ad σ) ∧ (∀ t i j, inR (σ t i j)) ∧ ∀ w ∈ nw, va_Nw w U
def Qz (D : va_G) (cy : Nat → ClassId) (ad : Nat → Nat → Nat) (K : Option Int → Mem → Prop) : Array Value → State → Outcome → State → Prop := fun _ st o t => (∃ (r : Option Int) (σ' : Mem), o = .returned (r.map (fun x => Value.int (Int32.ofInt x))) ∧ (∀ x, r = some x → inR x) ∧ K r σ' ∧ Wd D cy ad σ' t) ∧ va_F (As ad) st t
/-- a method's contract: where T asks K, the method returns, and K holds -/
def Ct (l : Launch) (y : MethodName) (cc : ByteArray) (maxL : Nat) (ret : Option FieldType) (n : Nat) (T : Tr) : Prop := ∀ (D : va_G) (cy : Nat → ClassId) (ad : Nat → Nat → Nat) (d : Nat), n ≤ d → ∀ (a : List AV) (σ : Mem) (K : Option Int → Mem → Prop), okS a → T a σ K → Met l y (wz y cc maxL ret) (rmD d) (va_Pc (a.map (vV ad)) (Wd D cy ad σ)) (Qz D cy ad K) 0 0 (As ad)
theorem pool_len {cy : Nat → ClassId} {ad : Nat → Nat → Nat} {σ σ' : Mem} {k : Nat} {q : Nat × va_E} (h : (pool cy ad σ)[k]? = some q) : ∃ q', (pool cy ad σ')[k]? = some q' ∧ q'.1 = q.1 := by
  unfold pool at h ⊢
  rw [List.getElem?_map] at h ⊢
  cases hc : cs[k]? with
  | none => rw [hc] at h; cases h
  | some c =>
    rw [hc] at h
    cases h
    exact ⟨_, rfl, rfl⟩
theorem pool_D {B : Nat → Prop} {cy : Nat → ClassId} {ad : Nat → Nat → Nat} {σ : Mem} (h : va_D B (pool cy ad σ)) (σ' : Mem) : va_D B (pool cy ad σ') := by
  refine ⟨fun i j p q hi hj hpq => ?_, fun k q hk => ?_⟩
  · obtain ⟨p', hp', e1⟩ := pool_len (σ' := σ) hi
    obtain ⟨q', hq', e2⟩ := pool_len (σ' := σ) hj
    exact h.1 i j p' q' hp' hq' (by rw [e1, e2]; exact hpq)
  · obtain ⟨q', hq', e2⟩ := pool_len (σ' := σ) hk
    rw [← e2]
    exact h.2 k q' hq'
theorem pool_As {cy : Nat → ClassId} {ad : Nat → Nat → Nat} {σ : Mem} (h : va_D (fun _ => True) (pool cy ad σ)) (σ' : Mem) : va_D (As ad) (pool cy ad σ') := by
  refine (pool_D h σ').weaken (fun k q hk _ => ?_)
  unfold pool at hk
  rw [List.getElem?_map] at hk
  cases hc : cs[k]? with
  | none => rw [hc] at hk; cases hk
  | some c =>
    rw [hc] at hk
    cases hk
    exact ⟨c.1, c.2, cs_cnt (List.mem_of_getElem? hc), rfl⟩
theorem Wd.blind {D : va_G} {cy : Nat → ClassId} {ad : Nat → Nat → Nat} {σ : Mem} {as : List Value} : FrameBlind (va_Pc as (Wd D cy ad σ)) := fun a U g mk h => ⟨h.1, h.2.1, va_K.moved (u := U) (U := U.calling g mk a) (Vm.Alike.refl U.vm) h.2.2.1, h.2.2.2.1, h.2.2.2.2.1, nw_same (u := U) (U := U.calling g mk a) rfl h.2.2.2.2.2⟩
/-- what the tables say of an own method that is called on its object -/
def MF (y : MethodName) (cc : ByteArray) (maxL : Nat) (ret : Option FieldType) (ci n : Nat) : Prop := (Cond.instanceMethod y ∈ lw_g ∧ Cond.selects y.cls y y ∈ lw_g ∧ Cond.initialized y.cls ∈ lw_g ∧ Cond.code y cc maxL ret ∈ lw_g) ∧ (∃ q, classes[ci]? = some q ∧ q.1 = y.cls) ∧ (y.cls ≠ "java/lang/invoke/MethodHandle" ∧ y.cls ≠ "java/lang/invoke/VarHandle" ∧ (parseMethodDescriptor y.desc).map (fun d => d.parameters.length) = some n) ∧ maxL ≤ 20
def SF (y : MethodName) (cc : ByteArray) (maxL : Nat) (ret : Option FieldType) (n : Nat) : Prop := (Cond.static y ∈ lw_g ∧ Cond.initialized y.cls ∈ lw_g ∧ Cond.code y cc maxL ret ∈ lw_g) ∧ (y.cls ≠ "java/lang/invoke/MethodHandle" ∧ y.cls ≠ "java/lang/invoke/VarHandle" ∧ (parseMethodDescriptor y.desc).map (fun d => d.parameters.length) = some n) ∧ maxL ≤ 20
theorem va_cat_le {ad : Nat → Nat → Nat} : ∀ {rest : List AV}, rest.length ≤ 4 → ((rest.map (vV ad)).map fun v => v.category).sum ≤ 8 := by
  have key : ∀ (rest : List AV), ((rest.map (vV ad)).map fun v => v.category).sum ≤ 2 * rest.length := by
    intro rest
    induction rest with
    | nil => exact Nat.le_refl 0
    | cons v r ih =>
      simp only [List.map_cons, List.sum_cons, List.length_cons]
      rcases lv_cat (vV ad v) with h | h <;> omega
  intro rest h
  have := key rest
  omega
section
variable {p : Program} {l : Launch} {e : Env} {R : Room} {s : State} {m : MethodId} {args : Array Value} {below : List Frame} {meth : Method} {c : Code} {cells slots : Nat} {Q : State → Prop} {D : va_G} {cy : Nat → ClassId} {ad : Nat → Nat → Nat} {A : Nat → Prop} {cc : ByteArray} {nL : Nat}
/-- behind a call that keeps to its contract -/
theorem call_on {H : Heap} {locs : List Loc} {g : JFrame} {rest : List Value} {a : Array Value} {K' : Option Int → Mem → Prop} {σ : Mem} (hA : ∀ q, As ad q → A q) (hS : va_S A s.heap H locs)
    (hr : va_Run p l e R s m args below meth c H locs cells slots 0 0 g rest (Qz D cy ad K' a) (As ad))
    (kk : ∀ r σ' H' locs', Ok D cy ad A s.heap H' locs' σ' → (∀ x, r = some x → inR x) → K' r σ' → W p l e R s m args below meth c H' locs' cells slots Q { g with pc := g.pc + 3, stack := rV r ++ rest }) : W p l e R s m args below meth c H locs cells slots Q g := by
  intro T hT X
  obtain ⟨v, st₀, t, T', L, h0, X', hL, e1, e2, ⟨⟨r, σ', hv, hri, hk, hw⟩, hz, hkp⟩, st⟩ := hr T hT X
  cases hv
  rw [h0] at hz hkp
  obtain ⟨t2, a1, b1⟩ := kk r σ' T'.heap (locs ++ L) ⟨by rw [e1]; exact hw.1, ⟨Nat.le_trans hS.1 (by rw [e1]; exact hz), fun q h1 h2 => by rw [e1, hkp q (Nat.lt_of_lt_of_le h1 hS.1) (fun z => h2 (hA q z))]; exact hS.2.1 q h1 h2, fun q hq => by
    rcases List.mem_append.mp hq with h | h
    · exact hS.2.2 q h
    · exact hA _ (hL q h)⟩, hw.2.2.2.1⟩ hri hk T' rfl X'
  exact ⟨t2, st t2 a1, b1⟩
theorem cr_V {own : String} {k n nn ci maxL : Nat} {y : MethodName} {bytes : ByteArray} {ret : Option FieldType} {T : Tr} (hx : p.tables.exec = Jvm.exec) (hb : c.code = cc) (hml : c.maxLocals = nL) (hown : s.vm.findClass own = some m.cls) (hts : ∀ w ∈ lw_g, w.before args s = true) (hK : va_K D classes (tysL cy) s) (hDD : va_D (fun _ => True) (pool cy ad (fun _ _ _ => 0))) (hNw : ∀ w ∈ nw, va_Nw w s) (hA : ∀ q, As ad q → A q) (hcs : cells ≤ R.cells) (hss : slots ≤ R.slots)
    (hM : Ct l y bytes maxL ret nn T) (hF : MF y bytes maxL ret ci n) (hl : Cond.methodLink own k y ∈ lw_g) (hR : nn + 1 ≤ R.frames ∧ 40 * nn + 40 ≤ R.locals) : CR p l e R s m args below meth c cells slots Q D cy ad A cc nL (.invokevirtual k) (n + 1) (rcv ci) T := by
  intro pc H locs ls σ as rest K' hd hO hls hlen hok hrc hT hrest kk
  obtain ⟨⟨f1, f2, f3, f4⟩, ⟨q, f5, f6⟩, f7, f8⟩ := hF
  rcases as with _ | ⟨(x | ⟨t, i⟩ | x), as'⟩
  · exact hrc.elim
  · exact hrc.elim
  · have ht : t = ci := hrc
    subst ht
    obtain ⟨hv, -⟩ := okS_cons hok
    have h8 := (cls_ok _ _ f5).2.1
    obtain ⟨q0, hc0, hp0⟩ := pool_at cy ad σ (refN hv (by omega))
    rw [enc_obj h8] at hp0
    have hws : ∀ w ∈ wsV own k y.cls y (wz y bytes maxL ret), w ∈ lw_g := by
      intro w hw
      simp only [wsV, wz, List.mem_append, List.mem_cons, List.not_mem_nil, or_false] at hw
      rcases hw with (rfl | rfl | rfl | rfl) | (rfl | hw)
      · exact hl
      · exact f1
      · exact f2
      · exact f3
      · exact f4
      · exact hw
    have hcw : CallW R s args own y.cls k y bytes maxL ret (wz y bytes maxL ret) (rmD nn) 0 0 n := cwV n hts (good_sub hws) rfl rfl rfl ⟨rfl, f7⟩ ⟨hR.1, by show 8 + (maxL + 11) + 40 * nn ≤ R.locals; omega⟩
    have hrecv := va_recv hK hO.1 f5 hp0
    rw [f6] at hrecv
    have hrun := va_runV (g := F0 m pc ls (((Sum.inr (Sum.inl (t, i)) :: as').reverse ++ rest).map (vV ad))) (rest := rest.map (vV ad)) (As := as'.map (vV ad)) (cells := cells) (slots := slots) (locs := locs) (below := below) (meth := meth) (e := e) ⟨hx, hb, hml, hown, hts⟩ (hM D cy ad nn (Nat.le_refl _) _ σ K' hok hT) hcw
      ⟨Wd.blind, hrecv, fun U hU hW => ⟨rfl, by rw [hU]; exact hO.1, va_K.moved hW.alike hK, pool_D hDD σ, hO.2.2, nw_warm hW hNw⟩⟩ rfl (by simpa using hlen) hls (by simp [vV]) (lv_room (va_cat_le hrest)) hd ⟨hcs, hss⟩
    exact call_on (σ := σ) hA hO.2.1 hrun kk
  · exact hrc.elim
theorem cr_S {own : String} {k n nn maxL : Nat} {y : MethodName} {bytes : ByteArray} {ret : Option FieldType} {T : Tr} (hx : p.tables.exec = Jvm.exec) (hb : c.code = cc) (hml : c.maxLocals = nL) (hown : s.vm.findClass own = some m.cls) (hts : ∀ w ∈ lw_g, w.before args s = true) (hK : va_K D classes (tysL cy) s) (hDD : va_D (fun _ => True) (pool cy ad (fun _ _ _ => 0))) (hNw : ∀ w ∈ nw, va_Nw w s) (hA : ∀ q, As ad q → A q) (hcs : cells ≤ R.cells) (hss : slots ≤ R.slots)
    (hM : Ct l y bytes maxL ret nn T) (hF : SF y bytes maxL ret n) (hl : (y.cls = own ∧ Cond.methodLink own k y ∈ lw_g) ∨ ∃ host, Cond.methodLinkNest own k y host ∈ nw) (hR : nn + 1 ≤ R.frames ∧ 40 * nn + 40 ≤ R.locals) : CR p l e R s m args below meth c cells slots Q D cy ad A cc nL (.invokestatic k) n (fun _ => True) T := by
  intro pc H locs ls σ as rest K' hd hO hls hlen hok _ hT hrest kk
  obtain ⟨⟨f1, f2, f3⟩, f7, f8⟩ := hF
  have hRR : (rmD nn).frames + 1 ≤ R.frames ∧ 8 + (maxL + 11) + (rmD nn).locals ≤ R.locals := ⟨hR.1, by show 8 + (maxL + 11) + 40 * nn ≤ R.locals; omega⟩
  have hp : PreS s H (va_Pc (as.map (vV ad)) (Wd D cy ad σ)) (as.map (vV ad)) := ⟨Wd.blind, fun U hU hW => ⟨rfl, by rw [hU]; exact hO.1, va_K.moved hW.alike hK, pool_D hDD σ, hO.2.2, nw_warm hW hNw⟩⟩
  rcases hl with ⟨hcl, hl⟩ | ⟨host, hl⟩
  · have hws : ∀ w ∈ wsS own k y (wz y bytes maxL ret), w ∈ lw_g := by
      intro w hw
      simp only [wsS, wz, List.mem_append, List.mem_cons, List.not_mem_nil, or_false] at hw
      rcases hw with (rfl | rfl | rfl) | (rfl | hw)
      · exact hl
      · exact f1
      · rw [← hcl]; exact f2
      · exact f3
      · exact hw
    have hrun := va_runS (g := F0 m pc ls ((as.reverse ++ rest).map (vV ad))) (rest := rest.map (vV ad)) (As := as.map (vV ad)) (cells := cells) (slots := slots) (locs := locs) (below := below) (meth := meth) (e := e) ⟨hx, hb, hml, hown, hts⟩ (hM D cy ad nn (Nat.le_refl _) _ σ K' hok hT) (cwS n hts (good_sub hws) rfl rfl rfl ⟨hcl, f7⟩ hRR) hp rfl (by simpa using hlen) hls (by simp) (lv_room (va_cat_le hrest)) hd ⟨hcs, hss⟩
    exact call_on (σ := σ) hA hO.2.1 hrun kk
  · have hws : ∀ w ∈ wz y bytes maxL ret, w ∈ lw_g := by
      intro w hw
      simp only [wz, List.mem_cons] at hw
      rcases hw with rfl | hw
      · exact f3
      · exact hw
    have hrun := va_runSN (host := host) (g := F0 m pc ls ((as.reverse ++ rest).map (vV ad))) (rest := rest.map (vV ad)) (As := as.map (vV ad)) (cells := cells) (slots := slots) (locs := locs) (below := below) (meth := meth) (e := e) ⟨hx, hb, hml, hown, hts⟩ (hM D cy ad nn (Nat.le_refl _) _ σ K' hok hT) ⟨va_cnB n hts (good_sub hws) rfl rfl rfl (hNw _ hl) (hts _ f2) f7 hRR, hts _ f1, trivial⟩ hp rfl (by simpa using hlen) hls (by simp) (lv_room (va_cat_le hrest)) hd ⟨hcs, hss⟩
    exact call_on (σ := σ) hA hO.2.1 hrun kk
end
/-! a method, from its entry -/
def eL : List AV → LL
  | [] => []
  | .inr (.inr x) :: r => some (.inr (.inr x)) :: none :: eL r
  | v :: r => some v :: eL r
def entL (a : List AV) (nL : Nat) : LL := eL a ++ List.replicate (nL - (eL a).length) none
theorem eL_len (ad : Nat → Nat → Nat) : ∀ a : List AV, (lg_sl (a.map (vV ad))).length = (eL a).length
  | [] => rfl
  | .inl x :: r => by
    have := eL_len ad r
    simp [lg_sl, eL, vV, Value.category] at this ⊢
    omega
  | .inr (.inl x) :: r => by
    have := eL_len ad r
    simp [lg_sl, eL, vV, Value.category] at this ⊢
    omega
  | .inr (.inr x) :: r => by
    have := eL_len ad r
    simp [lg_sl, eL, vV, Value.category] at this ⊢
    omega
theorem lget_app_none : ∀ (L : LL) (k i : Nat) (v : AV), lget (L ++ List.replicate k none) i = some v → lget L i = some v
  | [], 0, _, _, h => by cases h
  | [], k + 1, 0, _, h => by cases h
  | [], k + 1, i + 1, v, h => by
    have := lget_app_none [] k i v h
    cases this
  | _ :: _, _, 0, _, h => h
  | _ :: L, k, i + 1, v, h => lget_app_none L k i v h
theorem eL_arg (ad : Nat → Nat → Nat) : ∀ (a : List AV) (k i : Nat) (v : AV), lget (eL a) i = some v → (k + i, vV ad v) ∈ lv_args k (a.map (vV ad))
  | [], _, _, _, h => by cases h
  | .inl x :: r, k, 0, v, h => by cases h; exact List.mem_cons_self
  | .inr (.inl x) :: r, k, 0, v, h => by cases h; exact List.mem_cons_self
  | .inr (.inr x) :: r, k, 0, v, h => by cases h; exact List.mem_cons_self
  | .inl x :: r, k, i + 1, v, h => by
    have := eL_arg ad r (k + 1) i v h
    refine List.mem_cons_of_mem _ ?_
    rw [show k + (i + 1) = k + 1 + i by omega]
    exact this
  | .inr (.inl x) :: r, k, i + 1, v, h => by
    have := eL_arg ad r (k + 1) i v h
    refine List.mem_cons_of_mem _ ?_
    rw [show k + (i + 1) = k + 1 + i by omega]
    exact this
  | .inr (.inr x) :: r, k, 1, v, h => by cases h
  | .inr (.inr x) :: r, k, i + 2, v, h => by
    have := eL_arg ad r (k + 2) i v h
    refine List.mem_cons_of_mem _ ?_
    rw [show k + (i + 2) = k + 2 + i by omega]
    exact this
theorem rel_entry (ad : Nat → Nat → Nat) (a : List AV) {nL : Nat} (h : (eL a).length ≤ nL) : rel ad (entL a nL) nL ((lg_sl (a.map (vV ad)) ++ List.replicate (nL - (lg_sl (a.map (vV ad))).length) Slot.unset).toArray) := by
  have hl := lv_entry (a.map (vV ad)) (n := nL) (by rw [eL_len]; exact h)
  refine ⟨by unfold entL; simp; omega, hl.2.1, hl.1, fun i v hv => ?_⟩
  have h1 := eL_arg ad a 0 i v (lget_app_none _ _ _ _ hv)
  rw [Nat.zero_add] at h1
  exact hl.2.2 _ h1
theorem okL_entry {a : List AV} (h : okS a) (nL : Nat) : okL (entL a nL) := by
  have key : ∀ (a : List AV), okS a → okL (eL a) := by
    intro a
    induction a with
    | nil => intro _ i v hv; cases hv
    | cons w r ih =>
      intro h i v hv
      obtain ⟨h1, h2⟩ := okS_cons h
      rcases w with x | c | x
      · cases i with
        | zero => cases hv; exact h1
        | succ i => exact ih h2 i v hv
      · cases i with
        | zero => cases hv; exact h1
        | succ i => exact ih h2 i v hv
      · match i, hv with
        | 0, hv => cases hv; exact h1
        | 1, hv => cases hv
        | i + 2, hv => exact ih h2 i v hv
  exact fun i v hv => key a h i v (lget_app_none _ _ _ _ hv)
/-- what a method answers, by its type -/
def Kr (ret : Option FieldType) (K : Option Int → Mem → Prop) : Option Int → Mem → Prop := fun r σ => match r with
  | none => ret = none ∧ K none σ
  | some x => (ret = some .int ∨ (ret = some .boolean ∧ (x = 0 ∨ x = 1))) ∧ K (some x) σ
/-- a site of a call: which method, what it pops, its contract -/
def Site (l : Launch) (own : String) (k n ci nn : Nat) (T : Tr) : Prop := ∃ (y : MethodName) (bytes : ByteArray) (maxL : Nat) (ret : Option FieldType), Ct l y bytes maxL ret nn T ∧
  ((∃ n', n = n' + 1 ∧ MF y bytes maxL ret ci n' ∧ Cond.methodLink own k y ∈ lw_g) ∨ (ci = 99 ∧ SF y bytes maxL ret n ∧ ((y.cls = own ∧ Cond.methodLink own k y ∈ lw_g) ∨ ∃ host, Cond.methodLinkNest own k y host ∈ nw)))
def FldOK (own : String) (fr : Nat → Option (Nat × Nat × Int)) : Prop := ∀ k t j z, fr k = some (t, j, z) → ∃ q, classes[t]? = some q ∧ z = (j : Int) ∧ j < q.2.2 ∧ Cond.fieldLink own k (q.2.1 j).1 (q.2.1 j).2.1 (q.2.1 j).2.2.1 ∈ lw_g
def CstOK (own : String) (kc : Nat → Option Int) (kl : Nat → Option Int64) : Prop := (∀ k x, kc k = some x → inR x ∧ Cond.constant own k (Int32.ofInt x) ∈ lw_g) ∧ ∀ k x, kl k = some x → Cond.constantLong own k x ∈ lw_g
end
section
set_option maxHeartbeats 2000000 in
/-- THE RULE: a method keeps to its contract, when its instructions do, over abstract values -/
theorem mk_met {l : Launch} {y : MethodName} {cc : ByteArray} {maxL : Nat} {ret : Option FieldType} {n : Nat} {T : Tr} (hy : plainName y.cls = true) {C : CL} (hC : ∀ q ∈ C, chk cc q) (hl : lnk C = true) {fr : Nat → Option (Nat × Nat × Int)} {kc : Nat → Option Int} {kl : Nat → Option Int64} (hF : FldOK y.cls fr) (hCst : CstOK y.cls kc kl) {ca : Nat → Option (Nat × Nat × Tr)} (hca : ∀ k n' ci T', ca k = some (n', ci, T') → ∃ nn, nn + 1 ≤ n ∧ Site l y.cls k n' ci nn T')
    (hlen : ∀ a σ K, T a σ K → (eL a).length ≤ maxL)
    (body : ∀ a σ K, okS a → (∀ t i j, inR (σ t i j)) → T a σ K → ∃ (cut : Cut) (f : Nat), (∀ pc I L S σ' k, cut pc = some I → I L S σ' k → wp (fr, kc, kl, ca, false, 0, fun _ => 0) C cut (fun k' => k' < k) (Kr ret K) f (drp pc C) L S σ') ∧ wp (fr, kc, kl, ca, false, 0, fun _ => 0) C cut (fun _ => True) (Kr ret K) f (drp 0 C) (entL a maxL) [] σ) : Ct l y cc maxL ret n T := by
  intro D cy ad d hd a σ K ha hT
  refine Met.ofW (cc := cc) (maxL := maxL) (ret := ret) hy rfl ?_
  intro p e s m args below meth c s₁ B hml hv
  obtain ⟨rfl, hP, hK, hD0, hR, hNw⟩ := hv
  have hx := B.exec
  have hb := B.bytes
  have hr := B.returns
  have hts0 := atoms_spec (ws := wz y cc maxL ret) B.pre
  have hts : ∀ w ∈ lw_g, w.before (a.map (vV ad)).toArray s = true := fun w hw => hts0 w (List.mem_cons_of_mem _ hw)
  have hown : s.vm.findClass y.cls = some m.cls := findClass_of_methodNamed B.named
  have hlocks := B.notSynchronized
  obtain ⟨cut, f, h1, h2⟩ := body a σ K ha hR hT
  rw [lg_entry_eq]
  have hend : ∀ (r : Option Int) (σ' : Mem) (H : Heap) (locs : List Loc), Ok D cy ad (As ad) s.heap H locs σ' → (∀ x, r = some x → inR x) → K r σ' → ∀ t : State, t.heap = H → s.WarmedH t.vm → Qz D cy ad K (a.map (vV ad)).toArray s (.returned (r.map (fun x => Value.int (Int32.ofInt x)))) t := by
    intro r σ' H locs hO hri hk t ht hW
    exact ⟨⟨r, σ', rfl, hri, hk, by rw [ht]; exact hO.1, va_K.moved hW.alike hK, pool_D hD0 σ', hO.2.2, nw_warm hW hNw⟩, hO.2.1.F ht⟩
  have X : Cx p l e (headSpec (wz y cc maxL ret) (rmD d)).room s m (a.map (vV ad)).toArray below meth c 0 0 (MQ below (Qz D cy ad K) (a.map (vV ad)).toArray s 0 0 (As ad)) D cy ad (As ad) cc maxL y.cls (fr, kc, kl, ca, false, 0, fun _ => 0) (Kr ret K) := by
    refine ⟨⟨hx, hb, hown, hts, hK, fun σ' => pool_As hD0 σ'⟩, fun k t j z h => ?_, fun k x h => ⟨(hCst.1 k x h).1, hts _ (hCst.1 k x h).2⟩, fun k x h => hts _ (hCst.2 k x h), fun k n' ci T' h => ?_, fun h => (by cases h), fun x pc H locs ls σ' hdg hO hxr hk => ?_, fun pc H locs ls σ' hdg hO hk => ?_⟩
    · obtain ⟨q, e1, e2, e3, e4⟩ := hF k t j z h
      exact ⟨q, e1, e2, e3, hts _ e4⟩
    · obtain ⟨nn, hnn, y', bytes, maxL', ret', hct, hs⟩ := hca k n' ci T' h
      have hRR : nn + 1 ≤ (rmD d).frames ∧ 40 * nn + 40 ≤ (rmD d).locals := ⟨by show nn + 1 ≤ d; omega, by show 40 * nn + 40 ≤ 40 * d; omega⟩
      rcases hs with ⟨n2, rfl, hmf, hlk⟩ | ⟨hci, hsf, hlk⟩
      · refine ⟨fun _ => ?_, fun hci => ?_⟩
        · exact cr_V hx hb hml hown hts hK (pool_D hD0 _) hNw (fun _ q => q) (Nat.zero_le _) (Nat.zero_le _) hct hmf hlk hRR
        · obtain ⟨-, ⟨q, hq, -⟩, -⟩ := hmf
          have := (cls_ok _ _ hq).2.1
          omega
      · refine ⟨fun h8 => by omega, fun _ => ?_⟩
        exact cr_S hx hb hml hown hts hK (pool_D hD0 _) hNw (fun _ q => q) (Nat.zero_le _) (Nat.zero_le _) hct hsf hlk hRR
    · obtain ⟨hty, hk⟩ := hk
      have hq := hend (some x) σ' H locs hO (fun z hz => by cases hz; exact hxr) hk
      rcases hty with rfl | ⟨rfl, rfl | rfl⟩
      · exact W.zret (ty := .int) hx hb hr rfl hq hO.2.1.2.2 hdg
      · exact W.zret (ty := .boolean) hx hb hr rfl hq hO.2.1.2.2 hdg
      · exact W.zret (ty := .boolean) hx hb hr rfl hq hO.2.1.2.2 hdg
    · obtain ⟨rfl, hk⟩ := hk
      exact W.vret hx hb hr (hend none σ' H locs hO (fun z hz => by cases hz) hk) hO.2.1.2.2 hdg
  exact floyd X hC hl h1 0 _ [] σ h2 s.heap [] _ ⟨hP, va_S.rf, hR⟩ (rel_entry ad a (hlen a σ K hT)) (okL_entry ha maxL) (fun v hv => by cases hv)
end
section
theorem fp_0_0 : fp 0 0 = some (33, 0) := rfl
theorem fp_0_1 : fp 0 1 = none := rfl
theorem iz_0_1 : isZ 0 1 = false := rfl
theorem fp_0_2 : fp 0 2 = none := rfl
theorem iz_0_2 : isZ 0 2 = false := rfl
theorem fp_1_0 : fp 1 0 = some (15, 0) := rfl
theorem fp_1_1 : fp 1 1 = some (16, 0) := rfl
theorem fp_1_2 : fp 1 2 = some (17, 0) := rfl
theorem fp_1_3 : fp 1 3 = some (18, 0) := rfl
theorem fp_1_4 : fp 1 4 = some (19, 0) := rfl
theorem fp_1_5 : fp 1 5 = some (20, 0) := rfl
theorem fp_1_6 : fp 1 6 = some (21, 0) := rfl
theorem fp_1_7 : fp 1 7 = some (22, 0) := rfl
theorem fp_1_8 : fp 1 8 = none := rfl
theorem iz_1_8 : isZ 1 8 = false := rfl
theorem fp_1_9 : fp 1 9 = none := rfl
theorem iz_1_9 : isZ 1 9 = false := rfl
theorem fp_1_10 : fp 1 10 = some (23, 0) := rfl
theorem fp_1_11 : fp 1 11 = none := rfl
theorem iz_1_11 : isZ 1 11 = false := rfl
theorem fp_1_12 : fp 1 12 = some (24, 0) := rfl
theorem fp_1_13 : fp 1 13 = some (25, 0) := rfl
theorem fp_1_14 : fp 1 14 = some (26, 0) := rfl
theorem fp_2_0 : fp 2 0 = some (36, 0) := rfl
theorem fp_2_1 : fp 2 1 = none := rfl
theorem iz_2_1 : isZ 2 1 = false := rfl
theorem fp_2_2 : fp 2 2 = none := rfl
theorem iz_2_2 : isZ 2 2 = false := rfl
theorem fp_2_3 : fp 2 3 = none := rfl
theorem iz_2_3 : isZ 2 3 = false := rfl
theorem fp_3_0 : fp 3 0 = some (37, 0) := rfl
theorem fp_3_1 : fp 3 1 = none := rfl
theorem iz_3_1 : isZ 3 1 = false := rfl
theorem fp_4_0 : fp 4 0 = some (1, 2) := rfl
theorem fp_4_1 : fp 4 1 = none := rfl
theorem iz_4_1 : isZ 4 1 = true := rfl
theorem fp_4_2 : fp 4 2 = none := rfl
theorem iz_4_2 : isZ 4 2 = false := rfl
theorem fp_4_3 : fp 4 3 = some (27, 0) := rfl
theorem fp_4_4 : fp 4 4 = some (28, 0) := rfl
theorem fp_4_5 : fp 4 5 = some (29, 0) := rfl
theorem fp_4_6 : fp 4 6 = some (30, 0) := rfl
theorem fp_4_7 : fp 4 7 = some (31, 0) := rfl
theorem fp_5_0 : fp 5 0 = none := rfl
theorem iz_5_0 : isZ 5 0 = false := rfl
theorem fp_5_1 : fp 5 1 = some (8, 0) := rfl
theorem fp_5_2 : fp 5 2 = some (9, 0) := rfl
theorem fp_5_3 : fp 5 3 = some (10, 0) := rfl
theorem fp_5_4 : fp 5 4 = some (11, 0) := rfl
theorem fp_5_5 : fp 5 5 = some (12, 0) := rfl
theorem fp_5_6 : fp 5 6 = some (13, 0) := rfl
theorem fp_5_7 : fp 5 7 = some (14, 0) := rfl
theorem fp_6_0 : fp 6 0 = some (5, 0) := rfl
theorem fp_6_1 : fp 6 1 = some (5, 1) := rfl
theorem fp_6_2 : fp 6 2 = some (0, 0) := rfl
theorem fp_6_3 : fp 6 3 = some (34, 0) := rfl
theorem fp_6_4 : fp 6 4 = some (35, 0) := rfl
theorem fp_6_5 : fp 6 5 = some (2, 0) := rfl
theorem fp_6_6 : fp 6 6 = some (1, 0) := rfl
theorem fp_6_7 : fp 6 7 = some (3, 0) := rfl
theorem fp_6_8 : fp 6 8 = none := rfl
theorem iz_6_8 : isZ 6 8 = true := rfl
theorem fp_6_9 : fp 6 9 = none := rfl
theorem iz_6_9 : isZ 6 9 = true := rfl
theorem fp_6_10 : fp 6 10 = some (1, 1) := rfl
theorem fp_6_11 : fp 6 11 = some (4, 0) := rfl
theorem fp_6_12 : fp 6 12 = some (4, 1) := rfl
theorem fp_6_13 : fp 6 13 = none := rfl
theorem iz_6_13 : isZ 6 13 = false := rfl
theorem fp_6_14 : fp 6 14 = none := rfl
theorem iz_6_14 : isZ 6 14 = false := rfl
theorem fp_6_15 : fp 6 15 = none := rfl
theorem iz_6_15 : isZ 6 15 = false := rfl
theorem fp_7_0 : fp 7 0 = some (38, 0) := rfl
theorem fp_7_1 : fp 7 1 = some (39, 0) := rfl
theorem fp_7_2 : fp 7 2 = none := rfl
theorem iz_7_2 : isZ 7 2 = false := rfl
theorem fp_7_3 : fp 7 3 = some (40, 0) := rfl
theorem fp_7_4 : fp 7 4 = some (41, 0) := rfl
theorem fp_7_5 : fp 7 5 = some (42, 0) := rfl
theorem fp_7_6 : fp 7 6 = none := rfl
theorem iz_7_6 : isZ 7 6 = false := rfl
theorem fp_7_7 : fp 7 7 = some (43, 0) := rfl
theorem fp_7_8 : fp 7 8 = some (44, 0) := rfl
theorem fp_7_9 : fp 7 9 = some (45, 0) := rfl
theorem fp_7_10 : fp 7 10 = some (46, 0) := rfl
theorem fp_7_11 : fp 7 11 = some (47, 0) := rfl
theorem fp_7_12 : fp 7 12 = none := rfl
theorem iz_7_12 : isZ 7 12 = false := rfl
theorem fp_7_13 : fp 7 13 = some (48, 0) := rfl
theorem fp_7_14 : fp 7 14 = some (49, 0) := rfl
theorem fp_7_15 : fp 7 15 = some (50, 0) := rfl
theorem fp_7_16 : fp 7 16 = some (51, 0) := rfl
theorem fp_7_17 : fp 7 17 = some (52, 0) := rfl
theorem fp_7_18 : fp 7 18 = some (53, 0) := rfl
theorem fp_7_19 : fp 7 19 = some (54, 0) := rfl
theorem fp_7_20 : fp 7 20 = none := rfl
theorem iz_7_20 : isZ 7 20 = false := rfl
theorem fp_7_21 : fp 7 21 = none := rfl
theorem iz_7_21 : isZ 7 21 = true := rfl
theorem fp_7_22 : fp 7 22 = some (55, 0) := rfl
theorem fp_7_23 : fp 7 23 = none := rfl
theorem iz_7_23 : isZ 7 23 = false := rfl
theorem fp_7_24 : fp 7 24 = none := rfl
theorem iz_7_24 : isZ 7 24 = false := rfl
theorem ak_8 : ak 8 = some (0, 4) := rfl
theorem ak_9 : ak 9 = some (0, 4) := rfl
theorem ak_10 : ak 10 = some (0, 4) := rfl
theorem ak_11 : ak 11 = some (0, 16) := rfl
theorem ak_12 : ak 12 = some (0, 16) := rfl
theorem ak_13 : ak 13 = some (0, 4) := rfl
theorem ak_14 : ak 14 = some (0, 16) := rfl
theorem ak_15 : ak 15 = some (0, 4) := rfl
theorem ak_16 : ak 16 = some (0, 16) := rfl
theorem ak_17 : ak 17 = some (0, 16) := rfl
theorem ak_18 : ak 18 = some (0, 16) := rfl
theorem ak_19 : ak 19 = some (0, 16) := rfl
theorem ak_20 : ak 20 = some (0, 16) := rfl
theorem ak_21 : ak 21 = some (0, 16) := rfl
theorem ak_22 : ak 22 = some (0, 16) := rfl
theorem ak_23 : ak 23 = some (0, 16) := rfl
theorem ak_24 : ak 24 = some (0, 4) := rfl
theorem ak_25 : ak 25 = some (0, 4) := rfl
theorem ak_26 : ak 26 = some (0, 4) := rfl
theorem ak_27 : ak 27 = some (0, 16) := rfl
theorem ak_28 : ak 28 = some (0, 16) := rfl
theorem ak_29 : ak 29 = some (0, 16) := rfl
theorem ak_30 : ak 30 = some (0, 16) := rfl
theorem ak_31 : ak 31 = some (4, 25) := rfl
theorem ak_32 : ak 32 = some (0, 16) := rfl
theorem ak_33 : ak 33 = some (3, 6) := rfl
theorem ak_34 : ak 34 = some (3, 2) := rfl
theorem ak_35 : ak 35 = some (2, 2) := rfl
theorem ak_36 : ak 36 = some (1, 80) := rfl
theorem ak_37 : ak 37 = some (0, 16) := rfl
theorem ak_38 : ak 38 = some (0, 65) := rfl
theorem ak_39 : ak 39 = some (0, 390) := rfl
theorem ak_40 : ak 40 = some (0, 130) := rfl
theorem ak_41 : ak 41 = some (2, 2) := rfl
theorem ak_42 : ak 42 = some (0, 80) := rfl
theorem ak_43 : ak 43 = some (0, 16) := rfl
theorem ak_44 : ak 44 = some (2, 16) := rfl
theorem ak_45 : ak 45 = some (0, 16) := rfl
theorem ak_46 : ak 46 = some (0, 16) := rfl
theorem ak_47 : ak 47 = some (0, 16) := rfl
theorem ak_48 : ak 48 = some (0, 384) := rfl
theorem ak_49 : ak 49 = some (0, 4) := rfl
theorem ak_50 : ak 50 = some (0, 4) := rfl
theorem ak_51 : ak 51 = some (0, 16) := rfl
theorem ak_52 : ak 52 = some (0, 16) := rfl
theorem ak_53 : ak 53 = some (0, 16) := rfl
theorem ak_54 : ak 54 = some (0, 16) := rfl
theorem ak_55 : ak 55 = some (0, 60) := rfl
theorem ak_56 : ak 56 = none := rfl
theorem el31 (i j : Nat) : el 31 i j = (32, 25 * i + j) := rfl
theorem el33 (i j : Nat) : el 33 i j = (5, 2 + j) := rfl
theorem el34 (i j : Nat) : el 34 i j = (5, 8 + j) := rfl
theorem fv0 : ((0 : Fin 4) : Nat) = 0 := rfl
theorem fv1 : ((1 : Fin 4) : Nat) = 1 := rfl
theorem fv2 : ((2 : Fin 4) : Nat) = 2 := rfl
theorem fv3 : ((3 : Fin 4) : Nat) = 3 := rfl
theorem nc2 : ((2 : Nat) : Int) = 2 := rfl
theorem nc4 : ((4 : Nat) : Int) = 4 := rfl
theorem nc6 : ((6 : Nat) : Int) = 6 := rfl
theorem nc16 : ((16 : Nat) : Int) = 16 := rfl
theorem nc25 : ((25 : Nat) : Int) = 25 := rfl
theorem nc60 : ((60 : Nat) : Int) = 60 := rfl
theorem nc65 : ((65 : Nat) : Int) = 65 := rfl
theorem nc80 : ((80 : Nat) : Int) = 80 := rfl
theorem nc130 : ((130 : Nat) : Int) = 130 := rfl
theorem nc384 : ((384 : Nat) : Int) = 384 := rfl
theorem nc390 : ((390 : Nat) : Int) = 390 := rfl
end
section
theorem inR_l {x : Int} (h1 : -2147483648 ≤ x) (h2 : x ≤ 2147483647) : inR x = True := eq_true ⟨h1, h2⟩
theorem Kr_int {K : Option Int → Mem → Prop} {x : Int} {σ : Mem} : Kr (some .int) K (some x) σ = K (some x) σ := by simp [Kr]
theorem Kr_bool {K : Option Int → Mem → Prop} {x : Int} {σ : Mem} : Kr (some .boolean) K (some x) σ = ((x = 0 ∨ x = 1) ∧ K (some x) σ) := by simp [Kr]
theorem Kr_void {K : Option Int → Mem → Prop} {σ : Mem} : Kr none K none σ = K none σ := by simp [Kr]
set_option maxRecDepth 20000 in
theorem tG (K : Option Int → Mem → Prop) (c : Nat × Nat) (m s j : Int) (σ : Mem) (h0 : 0 ≤ j) (h1 : j ≤ 4) : wp (fun _ => none, fun _ => none, fun _ => none, fun _ => none, false, 0, fun _ => 0) [(0, .iload_n 2, 1, []), (1, .iconst 1, 1, []), (2, .iload_n 3, 1, []), (3, .ishl, 1, []), (4, .ior, 1, []), (5, .ireturn, 1, [])] (fun pc => if pc = 0 then some (fun L S σ' k => match L, S with | [some (.inr (.inl c1)), some (.inl m'), some (.inl s), some (.inl j)], [] => (0 ≤ j ∧ j ≤ 4) ∧ k = (4 - j).toNat | _, _ => False) else none) (fun k' => k' < 5) (Kr (some .int) K) 60 (drp 0 [(0, .iload_n 2, 1, []), (1, .iconst 1, 1, []), (2, .iload_n 3, 1, []), (3, .ishl, 1, []), (4, .ior, 1, []), (5, .ireturn, 1, [])]) [some (.inr (.inl c)), some (.inl m), some (.inl s), some (.inl j)] [] σ := by
  simp only [wp, stp, drp, entL, eL, lget, lset, okst, cnd, swt, rcv, Kr_int, Kr_bool, Kr_void, List.length_cons, List.length_nil, List.replicate, List.append_nil, List.cons_append, List.nil_append, List.take_succ_cons, List.take_zero, List.drop_succ_cons, List.drop_zero, List.reverse_cons, List.reverse_nil, Option.map_some, Option.map_none, Option.toList_some, Option.toList_none, Nat.reduceAdd, Nat.reduceSub, Nat.reduceLT, Nat.reduceLeDiff, Nat.reduceEqDiff, ↓reduceIte, Nat.add_zero, Nat.zero_add, true_and, and_true, Nat.le_refl, reduceCtorEq, false_implies, true_implies, not_true_eq_false, not_false_eq_true, Int.reduceAdd, Int.reduceSub, Int.reduceMul, Int.reduceLE, Int.reduceLT, Int.reduceEq, Int.reduceNe, Int.reduceNeg, Int.reduceDiv, Int.reduceMod, Bool.false_eq_true, Int.le_refl, and_self, true_or, or_true, inR_l, fv0, fv1, fv2, fv3, nc2, nc4, nc6, nc16, nc25, nc60, nc65, nc80, nc130, nc384, nc390, fp_0_0, fp_0_1, fp_0_2, fp_1_0, fp_1_1, fp_1_2, fp_1_3, fp_1_4, fp_1_5, fp_1_6, fp_1_7, fp_1_8, fp_1_9, fp_1_10, fp_1_11, fp_1_12, fp_1_13, fp_1_14, fp_2_0, fp_2_1, fp_2_2, fp_2_3, fp_3_0, fp_3_1, fp_4_0, fp_4_1, fp_4_2, fp_4_3, fp_4_4, fp_4_5, fp_4_6, fp_4_7, fp_5_0, fp_5_1, fp_5_2, fp_5_3, fp_5_4, fp_5_5, fp_5_6, fp_5_7, fp_6_0, fp_6_1, fp_6_2, fp_6_3, fp_6_4, fp_6_5, fp_6_6, fp_6_7, fp_6_8, fp_6_9, fp_6_10, fp_6_11, fp_6_12, fp_6_13, fp_6_14, fp_6_15, fp_7_0, fp_7_1, fp_7_2, fp_7_3, fp_7_4, fp_7_5, fp_7_6, fp_7_7, fp_7_8, fp_7_9, fp_7_10, fp_7_11, fp_7_12, fp_7_13, fp_7_14, fp_7_15, fp_7_16, fp_7_17, fp_7_18, fp_7_19, fp_7_20, fp_7_21, fp_7_22, fp_7_23, fp_7_24, iz_0_1, iz_0_2, iz_1_8, iz_1_9, iz_1_11, iz_2_1, iz_2_2, iz_2_3, iz_3_1, iz_4_1, iz_4_2, iz_5_0, iz_6_8, iz_6_9, iz_6_13, iz_6_14, iz_6_15, iz_7_2, iz_7_6, iz_7_12, iz_7_20, iz_7_21, iz_7_23, iz_7_24, ak_8, ak_9, ak_10, ak_11, ak_12, ak_13, ak_14, ak_15, ak_16, ak_17, ak_18, ak_19, ak_20, ak_21, ak_22, ak_23, ak_24, ak_25, ak_26, ak_27, ak_28, ak_29, ak_30, ak_31, ak_32, ak_33, ak_34, ak_35, ak_36, ak_37, ak_38, ak_39, ak_40, ak_41, ak_42, ak_43, ak_44, ak_45, ak_46, ak_47, ak_48, ak_49, ak_50, ak_51, ak_52, ak_53, ak_54, ak_55, ak_56, el31, el33, el34, exists_eq_right_right, exists_eq_right, exists_eq_left, Nat.lt_irrefl, and_self, implies_true, forall_const]
  sorry
set_option maxRecDepth 20000 in
theorem tA (K : Option Int → Mem → Prop) (c : Nat × Nat) (m s j : Int) (σ : Mem) (h0 : 0 ≤ j) (h1 : j ≤ 4) : wp (fun _ => none, fun _ => none, fun _ => none, fun _ => none, false, 0, fun _ => 0) [(0, .iload_n 2, 1, []), (1, .iconst 1, 1, []), (2, .iload_n 3, 1, []), (3, .ishl, 1, []), (4, .ior, 1, []), (5, .istore_n 2, 1, []), (6, .iinc 3 1, 3, []), (9, .goto (-9), 3, [0])] (fun pc => if pc = 0 then some (fun L S σ' k => match L, S with | [some (.inr (.inl c1)), some (.inl m'), some (.inl s), some (.inl j)], [] => (0 ≤ j ∧ j ≤ 4) ∧ k = (4 - j).toNat | _, _ => False) else none) (fun k' => k' < 5) (Kr (some .int) K) 60 (drp 0 [(0, .iload_n 2, 1, []), (1, .iconst 1, 1, []), (2, .iload_n 3, 1, []), (3, .ishl, 1, []), (4, .ior, 1, []), (5, .istore_n 2, 1, []), (6, .iinc 3 1, 3, []), (9, .goto (-9), 3, [0])]) [some (.inr (.inl c)), some (.inl m), some (.inl s), some (.inl j)] [] σ := by
  simp only [wp, stp, drp, entL, eL, lget, lset, okst, cnd, swt, rcv, Kr_int, Kr_bool, Kr_void, List.length_cons, List.length_nil, List.replicate, List.append_nil, List.cons_append, List.nil_append, List.take_succ_cons, List.take_zero, List.drop_succ_cons, List.drop_zero, List.reverse_cons, List.reverse_nil, Option.map_some, Option.map_none, Option.toList_some, Option.toList_none, Nat.reduceAdd, Nat.reduceSub, Nat.reduceLT, Nat.reduceLeDiff, Nat.reduceEqDiff, ↓reduceIte, Nat.add_zero, Nat.zero_add, true_and, and_true, Nat.le_refl, reduceCtorEq, false_implies, true_implies, not_true_eq_false, not_false_eq_true, Int.reduceAdd, Int.reduceSub, Int.reduceMul, Int.reduceLE, Int.reduceLT, Int.reduceEq, Int.reduceNe, Int.reduceNeg, Int.reduceDiv, Int.reduceMod, Bool.false_eq_true, Int.le_refl, and_self, true_or, or_true, inR_l, fv0, fv1, fv2, fv3, nc2, nc4, nc6, nc16, nc25, nc60, nc65, nc80, nc130, nc384, nc390, fp_0_0, fp_0_1, fp_0_2, fp_1_0, fp_1_1, fp_1_2, fp_1_3, fp_1_4, fp_1_5, fp_1_6, fp_1_7, fp_1_8, fp_1_9, fp_1_10, fp_1_11, fp_1_12, fp_1_13, fp_1_14, fp_2_0, fp_2_1, fp_2_2, fp_2_3, fp_3_0, fp_3_1, fp_4_0, fp_4_1, fp_4_2, fp_4_3, fp_4_4, fp_4_5, fp_4_6, fp_4_7, fp_5_0, fp_5_1, fp_5_2, fp_5_3, fp_5_4, fp_5_5, fp_5_6, fp_5_7, fp_6_0, fp_6_1, fp_6_2, fp_6_3, fp_6_4, fp_6_5, fp_6_6, fp_6_7, fp_6_8, fp_6_9, fp_6_10, fp_6_11, fp_6_12, fp_6_13, fp_6_14, fp_6_15, fp_7_0, fp_7_1, fp_7_2, fp_7_3, fp_7_4, fp_7_5, fp_7_6, fp_7_7, fp_7_8, fp_7_9, fp_7_10, fp_7_11, fp_7_12, fp_7_13, fp_7_14, fp_7_15, fp_7_16, fp_7_17, fp_7_18, fp_7_19, fp_7_20, fp_7_21, fp_7_22, fp_7_23, fp_7_24, iz_0_1, iz_0_2, iz_1_8, iz_1_9, iz_1_11, iz_2_1, iz_2_2, iz_2_3, iz_3_1, iz_4_1, iz_4_2, iz_5_0, iz_6_8, iz_6_9, iz_6_13, iz_6_14, iz_6_15, iz_7_2, iz_7_6, iz_7_12, iz_7_20, iz_7_21, iz_7_23, iz_7_24, ak_8, ak_9, ak_10, ak_11, ak_12, ak_13, ak_14, ak_15, ak_16, ak_17, ak_18, ak_19, ak_20, ak_21, ak_22, ak_23, ak_24, ak_25, ak_26, ak_27, ak_28, ak_29, ak_30, ak_31, ak_32, ak_33, ak_34, ak_35, ak_36, ak_37, ak_38, ak_39, ak_40, ak_41, ak_42, ak_43, ak_44, ak_45, ak_46, ak_47, ak_48, ak_49, ak_50, ak_51, ak_52, ak_53, ak_54, ak_55, ak_56, el31, el33, el34, exists_eq_right_right, exists_eq_right, exists_eq_left, Nat.lt_irrefl, and_self, implies_true, forall_const]
  sorry
end
