section
/-- a private method of a class that the tables say can be made, by its rows of tables_1 -/
def lw_okq (q : MethodName × Nat) : Prop := (q.1.cls ≠ "java/lang/invoke/MethodHandle" ∧ q.1.cls ≠ "java/lang/invoke/VarHandle") ∧ Cond.instantiable q.1.cls q.2 ∈ tables_1 ∧ Cond.privateMethod q.1 ∈ tables_1 ∧ Cond.instanceMethod q.1 ∈ tables_1
theorem lw_p0 : lw_okq (⟨"BottleneckShop", "record", "()V"⟩, 16) := ⟨⟨by decide +kernel, by decide +kernel⟩, List.mem_of_getElem? (i := 10) (by decide +kernel), List.mem_of_getElem? (i := 277) (by decide +kernel), List.mem_of_getElem? (i := 278) (by decide +kernel)⟩
theorem lw_p1 : lw_okq (⟨"BottleneckShop", "forgetAnswers", "()V"⟩, 16) := ⟨⟨by decide +kernel, by decide +kernel⟩, List.mem_of_getElem? (i := 10) (by decide +kernel), List.mem_of_getElem? (i := 292) (by decide +kernel), List.mem_of_getElem? (i := 293) (by decide +kernel)⟩
theorem lw_p2 : lw_okq (⟨"BottleneckShop", "knowPlan", "()Z"⟩, 16) := ⟨⟨by decide +kernel, by decide +kernel⟩, List.mem_of_getElem? (i := 10) (by decide +kernel), List.mem_of_getElem? (i := 339) (by decide +kernel), List.mem_of_getElem? (i := 340) (by decide +kernel)⟩
theorem lw_p3 : lw_okq (⟨"BottleneckShop$Net", "sortAlong", "(I)V"⟩, 15) := ⟨⟨by decide +kernel, by decide +kernel⟩, List.mem_of_getElem? (i := 109) (by decide +kernel), List.mem_of_getElem? (i := 368) (by decide +kernel), List.mem_of_getElem? (i := 369) (by decide +kernel)⟩
theorem lw_p4 : lw_okq (⟨"BottleneckShop$Net", "headOf", "(I)I"⟩, 15) := ⟨⟨by decide +kernel, by decide +kernel⟩, List.mem_of_getElem? (i := 109) (by decide +kernel), List.mem_of_getElem? (i := 372) (by decide +kernel), List.mem_of_getElem? (i := 373) (by decide +kernel)⟩
theorem lw_p5 : lw_okq (⟨"BottleneckShop$Net", "tailOf", "(I)I"⟩, 15) := ⟨⟨by decide +kernel, by decide +kernel⟩, List.mem_of_getElem? (i := 109) (by decide +kernel), List.mem_of_getElem? (i := 376) (by decide +kernel), List.mem_of_getElem? (i := 377) (by decide +kernel)⟩
theorem lw_p6 : lw_okq (⟨"BottleneckShop$Path", "first", "(LBottleneckShop$Net;LBottleneckShop$State;)I"⟩, 2) := ⟨⟨by decide +kernel, by decide +kernel⟩, List.mem_of_getElem? (i := 167) (by decide +kernel), List.mem_of_getElem? (i := 388) (by decide +kernel), List.mem_of_getElem? (i := 389) (by decide +kernel)⟩
theorem lw_p7 : lw_okq (⟨"BottleneckShop$Path", "next", "(LBottleneckShop$Net;LBottleneckShop$State;I)I"⟩, 2) := ⟨⟨by decide +kernel, by decide +kernel⟩, List.mem_of_getElem? (i := 167) (by decide +kernel), List.mem_of_getElem? (i := 397) (by decide +kernel), List.mem_of_getElem? (i := 398) (by decide +kernel)⟩
theorem lw_p8 : lw_okq (⟨"BottleneckShop$Path", "goesOn", "(LBottleneckShop$Net;II)Z"⟩, 2) := ⟨⟨by decide +kernel, by decide +kernel⟩, List.mem_of_getElem? (i := 167) (by decide +kernel), List.mem_of_getElem? (i := 402) (by decide +kernel), List.mem_of_getElem? (i := 403) (by decide +kernel)⟩
theorem lw_p9 : lw_okq (⟨"BottleneckShop$Net", "nextHead", "(II)I"⟩, 15) := ⟨⟨by decide +kernel, by decide +kernel⟩, List.mem_of_getElem? (i := 109) (by decide +kernel), List.mem_of_getElem? (i := 441) (by decide +kernel), List.mem_of_getElem? (i := 442) (by decide +kernel)⟩
theorem lw_p10 : lw_okq (⟨"BottleneckShop$Net", "mostUrgent", "(II)I"⟩, 15) := ⟨⟨by decide +kernel, by decide +kernel⟩, List.mem_of_getElem? (i := 109) (by decide +kernel), List.mem_of_getElem? (i := 445) (by decide +kernel), List.mem_of_getElem? (i := 446) (by decide +kernel)⟩
theorem lw_p11 : lw_okq (⟨"BottleneckShop$Search", "complete", "(II)Z"⟩, 8) := ⟨⟨by decide +kernel, by decide +kernel⟩, List.mem_of_getElem? (i := 182) (by decide +kernel), List.mem_of_getElem? (i := 449) (by decide +kernel), List.mem_of_getElem? (i := 450) (by decide +kernel)⟩
theorem lw_p12 : lw_okq (⟨"BottleneckShop$Net", "forceOn", "(II)I"⟩, 15) := ⟨⟨by decide +kernel, by decide +kernel⟩, List.mem_of_getElem? (i := 109) (by decide +kernel), List.mem_of_getElem? (i := 458) (by decide +kernel), List.mem_of_getElem? (i := 459) (by decide +kernel)⟩
theorem lw_p13 : lw_okq (⟨"BottleneckShop$Net", "undecided", "(II)Z"⟩, 15) := ⟨⟨by decide +kernel, by decide +kernel⟩, List.mem_of_getElem? (i := 109) (by decide +kernel), List.mem_of_getElem? (i := 462) (by decide +kernel), List.mem_of_getElem? (i := 463) (by decide +kernel)⟩
theorem lw_p14 : lw_okq (⟨"BottleneckShop$Net", "wayThrough", "(II)I"⟩, 15) := ⟨⟨by decide +kernel, by decide +kernel⟩, List.mem_of_getElem? (i := 109) (by decide +kernel), List.mem_of_getElem? (i := 470) (by decide +kernel), List.mem_of_getElem? (i := 471) (by decide +kernel)⟩
theorem lw_p15 : lw_okq (⟨"BottleneckShop$Search", "settle", "(I)I"⟩, 8) := ⟨⟨by decide +kernel, by decide +kernel⟩, List.mem_of_getElem? (i := 182) (by decide +kernel), List.mem_of_getElem? (i := 483) (by decide +kernel), List.mem_of_getElem? (i := 484) (by decide +kernel)⟩
def lw_privs_1 : List (MethodName × Nat) := [(⟨"BottleneckShop", "record", "()V"⟩, 16), (⟨"BottleneckShop", "forgetAnswers", "()V"⟩, 16), (⟨"BottleneckShop", "knowPlan", "()Z"⟩, 16), (⟨"BottleneckShop$Net", "sortAlong", "(I)V"⟩, 15), (⟨"BottleneckShop$Net", "headOf", "(I)I"⟩, 15), (⟨"BottleneckShop$Net", "tailOf", "(I)I"⟩, 15), (⟨"BottleneckShop$Path", "first", "(LBottleneckShop$Net;LBottleneckShop$State;)I"⟩, 2), (⟨"BottleneckShop$Path", "next", "(LBottleneckShop$Net;LBottleneckShop$State;I)I"⟩, 2), (⟨"BottleneckShop$Path", "goesOn", "(LBottleneckShop$Net;II)Z"⟩, 2), (⟨"BottleneckShop$Net", "nextHead", "(II)I"⟩, 15), (⟨"BottleneckShop$Net", "mostUrgent", "(II)I"⟩, 15), (⟨"BottleneckShop$Search", "complete", "(II)Z"⟩, 8), (⟨"BottleneckShop$Net", "forceOn", "(II)I"⟩, 15), (⟨"BottleneckShop$Net", "undecided", "(II)Z"⟩, 15), (⟨"BottleneckShop$Net", "wayThrough", "(II)I"⟩, 15), (⟨"BottleneckShop$Search", "settle", "(I)I"⟩, 8)]
theorem lw_r1 : ∀ q ∈ lw_privs_1, lw_okq q := List.forall_mem_cons.mpr ⟨lw_p0, List.forall_mem_cons.mpr ⟨lw_p1, List.forall_mem_cons.mpr ⟨lw_p2, List.forall_mem_cons.mpr ⟨lw_p3, List.forall_mem_cons.mpr ⟨lw_p4, List.forall_mem_cons.mpr ⟨lw_p5, List.forall_mem_cons.mpr ⟨lw_p6, List.forall_mem_cons.mpr ⟨lw_p7, List.forall_mem_cons.mpr ⟨lw_p8, List.forall_mem_cons.mpr ⟨lw_p9, List.forall_mem_cons.mpr ⟨lw_p10, List.forall_mem_cons.mpr ⟨lw_p11, List.forall_mem_cons.mpr ⟨lw_p12, List.forall_mem_cons.mpr ⟨lw_p13, List.forall_mem_cons.mpr ⟨lw_p14, List.forall_mem_cons.mpr ⟨lw_p15, fun _ h => absurd h List.not_mem_nil⟩⟩⟩⟩⟩⟩⟩⟩⟩⟩⟩⟩⟩⟩⟩⟩
theorem lw_p16 : lw_okq (⟨"BottleneckShop$Search", "jobsLeft", "(I)I"⟩, 8) := ⟨⟨by decide +kernel, by decide +kernel⟩, List.mem_of_getElem? (i := 182) (by decide +kernel), List.mem_of_getElem? (i := 487) (by decide +kernel), List.mem_of_getElem? (i := 488) (by decide +kernel)⟩
theorem lw_p17 : lw_okq (⟨"BottleneckShop", "lengthBehindNext", "(I)I"⟩, 16) := ⟨⟨by decide +kernel, by decide +kernel⟩, List.mem_of_getElem? (i := 10) (by decide +kernel), List.mem_of_getElem? (i := 498) (by decide +kernel), List.mem_of_getElem? (i := 499) (by decide +kernel)⟩
theorem lw_p18 : lw_okq (⟨"BottleneckShop", "timeAbout", "(II)I"⟩, 16) := ⟨⟨by decide +kernel, by decide +kernel⟩, List.mem_of_getElem? (i := 10) (by decide +kernel), List.mem_of_getElem? (i := 511) (by decide +kernel), List.mem_of_getElem? (i := 512) (by decide +kernel)⟩
theorem lw_p19 : lw_okq (⟨"BottleneckShop", "endOfJob", "(I)I"⟩, 16) := ⟨⟨by decide +kernel, by decide +kernel⟩, List.mem_of_getElem? (i := 10) (by decide +kernel), List.mem_of_getElem? (i := 537) (by decide +kernel), List.mem_of_getElem? (i := 538) (by decide +kernel)⟩
theorem lw_p20 : lw_okq (⟨"BottleneckShop", "lateness", "(I)I"⟩, 16) := ⟨⟨by decide +kernel, by decide +kernel⟩, List.mem_of_getElem? (i := 10) (by decide +kernel), List.mem_of_getElem? (i := 542) (by decide +kernel), List.mem_of_getElem? (i := 543) (by decide +kernel)⟩
theorem lw_p21 : lw_okq (⟨"BottleneckShop", "numberOfPlan", "(I)I"⟩, 16) := ⟨⟨by decide +kernel, by decide +kernel⟩, List.mem_of_getElem? (i := 10) (by decide +kernel), List.mem_of_getElem? (i := 559) (by decide +kernel), List.mem_of_getElem? (i := 560) (by decide +kernel)⟩
theorem lw_p22 : lw_okq (⟨"BottleneckShop", "sumOfLateness", "()I"⟩, 16) := ⟨⟨by decide +kernel, by decide +kernel⟩, List.mem_of_getElem? (i := 10) (by decide +kernel), List.mem_of_getElem? (i := 567) (by decide +kernel), List.mem_of_getElem? (i := 568) (by decide +kernel)⟩
theorem lw_p23 : lw_okq (⟨"BottleneckShop", "greatestLateness", "()I"⟩, 16) := ⟨⟨by decide +kernel, by decide +kernel⟩, List.mem_of_getElem? (i := 10) (by decide +kernel), List.mem_of_getElem? (i := 571) (by decide +kernel), List.mem_of_getElem? (i := 572) (by decide +kernel)⟩
theorem lw_p24 : lw_okq (⟨"BottleneckShop", "takeBreakdown", "(III)V"⟩, 16) := ⟨⟨by decide +kernel, by decide +kernel⟩, List.mem_of_getElem? (i := 10) (by decide +kernel), List.mem_of_getElem? (i := 603) (by decide +kernel), List.mem_of_getElem? (i := 604) (by decide +kernel)⟩
theorem lw_p25 : lw_okq (⟨"BottleneckShop", "stays", "(III)Z"⟩, 16) := ⟨⟨by decide +kernel, by decide +kernel⟩, List.mem_of_getElem? (i := 10) (by decide +kernel), List.mem_of_getElem? (i := 608) (by decide +kernel), List.mem_of_getElem? (i := 609) (by decide +kernel)⟩
theorem lw_p26 : lw_okq (⟨"BottleneckShop$Pad", "readJob", "(LBottleneckShop$State;)Z"⟩, 4) := ⟨⟨by decide +kernel, by decide +kernel⟩, List.mem_of_getElem? (i := 87) (by decide +kernel), List.mem_of_getElem? (i := 645) (by decide +kernel), List.mem_of_getElem? (i := 646) (by decide +kernel)⟩
theorem lw_p27 : lw_okq (⟨"BottleneckShop$Pad", "take", "(C)Z"⟩, 4) := ⟨⟨by decide +kernel, by decide +kernel⟩, List.mem_of_getElem? (i := 87) (by decide +kernel), List.mem_of_getElem? (i := 649) (by decide +kernel), List.mem_of_getElem? (i := 650) (by decide +kernel)⟩
theorem lw_p28 : lw_okq (⟨"BottleneckShop$Pad", "number", "(II)I"⟩, 4) := ⟨⟨by decide +kernel, by decide +kernel⟩, List.mem_of_getElem? (i := 87) (by decide +kernel), List.mem_of_getElem? (i := 653) (by decide +kernel), List.mem_of_getElem? (i := 654) (by decide +kernel)⟩
theorem lw_p29 : lw_okq (⟨"BottleneckShop$Pad", "digit", "()I"⟩, 4) := ⟨⟨by decide +kernel, by decide +kernel⟩, List.mem_of_getElem? (i := 87) (by decide +kernel), List.mem_of_getElem? (i := 657) (by decide +kernel), List.mem_of_getElem? (i := 658) (by decide +kernel)⟩
theorem lw_p30 : lw_okq (⟨"BottleneckShop$Pad", "readOperation", "(LBottleneckShop$State;I)Z"⟩, 4) := ⟨⟨by decide +kernel, by decide +kernel⟩, List.mem_of_getElem? (i := 87) (by decide +kernel), List.mem_of_getElem? (i := 662) (by decide +kernel), List.mem_of_getElem? (i := 663) (by decide +kernel)⟩
theorem lw_p31 : lw_okq (⟨"BottleneckShop$Pad", "readOrder", "(LBottleneckShop$State;)Z"⟩, 4) := ⟨⟨by decide +kernel, by decide +kernel⟩, List.mem_of_getElem? (i := 87) (by decide +kernel), List.mem_of_getElem? (i := 672) (by decide +kernel), List.mem_of_getElem? (i := 673) (by decide +kernel)⟩
def lw_privs_2 : List (MethodName × Nat) := [(⟨"BottleneckShop$Search", "jobsLeft", "(I)I"⟩, 8), (⟨"BottleneckShop", "lengthBehindNext", "(I)I"⟩, 16), (⟨"BottleneckShop", "timeAbout", "(II)I"⟩, 16), (⟨"BottleneckShop", "endOfJob", "(I)I"⟩, 16), (⟨"BottleneckShop", "lateness", "(I)I"⟩, 16), (⟨"BottleneckShop", "numberOfPlan", "(I)I"⟩, 16), (⟨"BottleneckShop", "sumOfLateness", "()I"⟩, 16), (⟨"BottleneckShop", "greatestLateness", "()I"⟩, 16), (⟨"BottleneckShop", "takeBreakdown", "(III)V"⟩, 16), (⟨"BottleneckShop", "stays", "(III)Z"⟩, 16), (⟨"BottleneckShop$Pad", "readJob", "(LBottleneckShop$State;)Z"⟩, 4), (⟨"BottleneckShop$Pad", "take", "(C)Z"⟩, 4), (⟨"BottleneckShop$Pad", "number", "(II)I"⟩, 4), (⟨"BottleneckShop$Pad", "digit", "()I"⟩, 4), (⟨"BottleneckShop$Pad", "readOperation", "(LBottleneckShop$State;I)Z"⟩, 4), (⟨"BottleneckShop$Pad", "readOrder", "(LBottleneckShop$State;)Z"⟩, 4)]
theorem lw_r2 : ∀ q ∈ lw_privs_2, lw_okq q := List.forall_mem_cons.mpr ⟨lw_p16, List.forall_mem_cons.mpr ⟨lw_p17, List.forall_mem_cons.mpr ⟨lw_p18, List.forall_mem_cons.mpr ⟨lw_p19, List.forall_mem_cons.mpr ⟨lw_p20, List.forall_mem_cons.mpr ⟨lw_p21, List.forall_mem_cons.mpr ⟨lw_p22, List.forall_mem_cons.mpr ⟨lw_p23, List.forall_mem_cons.mpr ⟨lw_p24, List.forall_mem_cons.mpr ⟨lw_p25, List.forall_mem_cons.mpr ⟨lw_p26, List.forall_mem_cons.mpr ⟨lw_p27, List.forall_mem_cons.mpr ⟨lw_p28, List.forall_mem_cons.mpr ⟨lw_p29, List.forall_mem_cons.mpr ⟨lw_p30, List.forall_mem_cons.mpr ⟨lw_p31, fun _ h => absurd h List.not_mem_nil⟩⟩⟩⟩⟩⟩⟩⟩⟩⟩⟩⟩⟩⟩⟩⟩
theorem lw_p32 : lw_okq (⟨"BottleneckShop$Pad", "anotherJobFor", "(I)Z"⟩, 4) := ⟨⟨by decide +kernel, by decide +kernel⟩, List.mem_of_getElem? (i := 87) (by decide +kernel), List.mem_of_getElem? (i := 684) (by decide +kernel), List.mem_of_getElem? (i := 685) (by decide +kernel)⟩
theorem lw_p33 : lw_okq (⟨"BottleneckShopModel", "keep", "()V"⟩, 25) := ⟨⟨by decide +kernel, by decide +kernel⟩, List.mem_of_getElem? (i := 720) (by decide +kernel), List.mem_of_getElem? (i := 809) (by decide +kernel), List.mem_of_getElem? (i := 810) (by decide +kernel)⟩
theorem lw_p34 : lw_okq (⟨"BottleneckShopModel", "addJob", "(II)V"⟩, 25) := ⟨⟨by decide +kernel, by decide +kernel⟩, List.mem_of_getElem? (i := 720) (by decide +kernel), List.mem_of_getElem? (i := 813) (by decide +kernel), List.mem_of_getElem? (i := 814) (by decide +kernel)⟩
theorem lw_p35 : lw_okq (⟨"BottleneckShopModel", "isJob", "(I)Z"⟩, 25) := ⟨⟨by decide +kernel, by decide +kernel⟩, List.mem_of_getElem? (i := 720) (by decide +kernel), List.mem_of_getElem? (i := 821) (by decide +kernel), List.mem_of_getElem? (i := 822) (by decide +kernel)⟩
theorem lw_p36 : lw_okq (⟨"BottleneckShopModel", "operationOn", "(II)I"⟩, 25) := ⟨⟨by decide +kernel, by decide +kernel⟩, List.mem_of_getElem? (i := 720) (by decide +kernel), List.mem_of_getElem? (i := 825) (by decide +kernel), List.mem_of_getElem? (i := 826) (by decide +kernel)⟩
theorem lw_p37 : lw_okq (⟨"BottleneckShopModel", "ofAJob", "(II)I"⟩, 25) := ⟨⟨by decide +kernel, by decide +kernel⟩, List.mem_of_getElem? (i := 720) (by decide +kernel), List.mem_of_getElem? (i := 829) (by decide +kernel), List.mem_of_getElem? (i := 830) (by decide +kernel)⟩
theorem lw_p38 : lw_okq (⟨"BottleneckShopModel", "machineOf", "(I)I"⟩, 25) := ⟨⟨by decide +kernel, by decide +kernel⟩, List.mem_of_getElem? (i := 720) (by decide +kernel), List.mem_of_getElem? (i := 833) (by decide +kernel), List.mem_of_getElem? (i := 834) (by decide +kernel)⟩
theorem lw_p39 : lw_okq (⟨"BottleneckShopModel", "addOperation", "(III)I"⟩, 25) := ⟨⟨by decide +kernel, by decide +kernel⟩, List.mem_of_getElem? (i := 720) (by decide +kernel), List.mem_of_getElem? (i := 837) (by decide +kernel), List.mem_of_getElem? (i := 838) (by decide +kernel)⟩
theorem lw_p40 : lw_okq (⟨"BottleneckShopModel", "isOperation", "(I)Z"⟩, 25) := ⟨⟨by decide +kernel, by decide +kernel⟩, List.mem_of_getElem? (i := 720) (by decide +kernel), List.mem_of_getElem? (i := 845) (by decide +kernel), List.mem_of_getElem? (i := 846) (by decide +kernel)⟩
theorem lw_p41 : lw_okq (⟨"BottleneckShopModel", "lasts", "(I)I"⟩, 25) := ⟨⟨by decide +kernel, by decide +kernel⟩, List.mem_of_getElem? (i := 720) (by decide +kernel), List.mem_of_getElem? (i := 849) (by decide +kernel), List.mem_of_getElem? (i := 850) (by decide +kernel)⟩
theorem lw_p42 : lw_okq (⟨"BottleneckShopModel", "find", "()Z"⟩, 25) := ⟨⟨by decide +kernel, by decide +kernel⟩, List.mem_of_getElem? (i := 720) (by decide +kernel), List.mem_of_getElem? (i := 857) (by decide +kernel), List.mem_of_getElem? (i := 858) (by decide +kernel)⟩
theorem lw_p43 : lw_okq (⟨"BottleneckShopModel", "nothingStays", "()V"⟩, 25) := ⟨⟨by decide +kernel, by decide +kernel⟩, List.mem_of_getElem? (i := 720) (by decide +kernel), List.mem_of_getElem? (i := 861) (by decide +kernel), List.mem_of_getElem? (i := 862) (by decide +kernel)⟩
theorem lw_p44 : lw_okq (⟨"BottleneckShopModel", "findHeads", "(I)Z"⟩, 25) := ⟨⟨by decide +kernel, by decide +kernel⟩, List.mem_of_getElem? (i := 720) (by decide +kernel), List.mem_of_getElem? (i := 865) (by decide +kernel), List.mem_of_getElem? (i := 866) (by decide +kernel)⟩
theorem lw_p45 : lw_okq (⟨"BottleneckShopModel", "operationAt", "(II)I"⟩, 25) := ⟨⟨by decide +kernel, by decide +kernel⟩, List.mem_of_getElem? (i := 720) (by decide +kernel), List.mem_of_getElem? (i := 869) (by decide +kernel), List.mem_of_getElem? (i := 870) (by decide +kernel)⟩
theorem lw_p46 : lw_okq (⟨"BottleneckShopModel", "jobAt", "(II)I"⟩, 25) := ⟨⟨by decide +kernel, by decide +kernel⟩, List.mem_of_getElem? (i := 720) (by decide +kernel), List.mem_of_getElem? (i := 873) (by decide +kernel), List.mem_of_getElem? (i := 874) (by decide +kernel)⟩
theorem lw_p47 : lw_okq (⟨"BottleneckShopModel", "raiseHead", "(II)Z"⟩, 25) := ⟨⟨by decide +kernel, by decide +kernel⟩, List.mem_of_getElem? (i := 720) (by decide +kernel), List.mem_of_getElem? (i := 877) (by decide +kernel), List.mem_of_getElem? (i := 878) (by decide +kernel)⟩
def lw_privs_3 : List (MethodName × Nat) := [(⟨"BottleneckShop$Pad", "anotherJobFor", "(I)Z"⟩, 4), (⟨"BottleneckShopModel", "keep", "()V"⟩, 25), (⟨"BottleneckShopModel", "addJob", "(II)V"⟩, 25), (⟨"BottleneckShopModel", "isJob", "(I)Z"⟩, 25), (⟨"BottleneckShopModel", "operationOn", "(II)I"⟩, 25), (⟨"BottleneckShopModel", "ofAJob", "(II)I"⟩, 25), (⟨"BottleneckShopModel", "machineOf", "(I)I"⟩, 25), (⟨"BottleneckShopModel", "addOperation", "(III)I"⟩, 25), (⟨"BottleneckShopModel", "isOperation", "(I)Z"⟩, 25), (⟨"BottleneckShopModel", "lasts", "(I)I"⟩, 25), (⟨"BottleneckShopModel", "find", "()Z"⟩, 25), (⟨"BottleneckShopModel", "nothingStays", "()V"⟩, 25), (⟨"BottleneckShopModel", "findHeads", "(I)Z"⟩, 25), (⟨"BottleneckShopModel", "operationAt", "(II)I"⟩, 25), (⟨"BottleneckShopModel", "jobAt", "(II)I"⟩, 25), (⟨"BottleneckShopModel", "raiseHead", "(II)Z"⟩, 25)]
theorem lw_r3 : ∀ q ∈ lw_privs_3, lw_okq q := List.forall_mem_cons.mpr ⟨lw_p32, List.forall_mem_cons.mpr ⟨lw_p33, List.forall_mem_cons.mpr ⟨lw_p34, List.forall_mem_cons.mpr ⟨lw_p35, List.forall_mem_cons.mpr ⟨lw_p36, List.forall_mem_cons.mpr ⟨lw_p37, List.forall_mem_cons.mpr ⟨lw_p38, List.forall_mem_cons.mpr ⟨lw_p39, List.forall_mem_cons.mpr ⟨lw_p40, List.forall_mem_cons.mpr ⟨lw_p41, List.forall_mem_cons.mpr ⟨lw_p42, List.forall_mem_cons.mpr ⟨lw_p43, List.forall_mem_cons.mpr ⟨lw_p44, List.forall_mem_cons.mpr ⟨lw_p45, List.forall_mem_cons.mpr ⟨lw_p46, List.forall_mem_cons.mpr ⟨lw_p47, fun _ h => absurd h List.not_mem_nil⟩⟩⟩⟩⟩⟩⟩⟩⟩⟩⟩⟩⟩⟩⟩⟩
theorem lw_p48 : lw_okq (⟨"BottleneckShopModel", "beforeOnRoute", "(I)I"⟩, 25) := ⟨⟨by decide +kernel, by decide +kernel⟩, List.mem_of_getElem? (i := 720) (by decide +kernel), List.mem_of_getElem? (i := 884) (by decide +kernel), List.mem_of_getElem? (i := 885) (by decide +kernel)⟩
theorem lw_p49 : lw_okq (⟨"BottleneckShopModel", "endOf", "(I)I"⟩, 25) := ⟨⟨by decide +kernel, by decide +kernel⟩, List.mem_of_getElem? (i := 720) (by decide +kernel), List.mem_of_getElem? (i := 888) (by decide +kernel), List.mem_of_getElem? (i := 889) (by decide +kernel)⟩
theorem lw_p50 : lw_okq (⟨"BottleneckShopModel", "findTails", "()V"⟩, 25) := ⟨⟨by decide +kernel, by decide +kernel⟩, List.mem_of_getElem? (i := 720) (by decide +kernel), List.mem_of_getElem? (i := 892) (by decide +kernel), List.mem_of_getElem? (i := 893) (by decide +kernel)⟩
theorem lw_p51 : lw_okq (⟨"BottleneckShopModel", "behindOnRoute", "(I)I"⟩, 25) := ⟨⟨by decide +kernel, by decide +kernel⟩, List.mem_of_getElem? (i := 720) (by decide +kernel), List.mem_of_getElem? (i := 896) (by decide +kernel), List.mem_of_getElem? (i := 897) (by decide +kernel)⟩
theorem lw_p52 : lw_okq (⟨"BottleneckShopModel", "withTail", "(I)I"⟩, 25) := ⟨⟨by decide +kernel, by decide +kernel⟩, List.mem_of_getElem? (i := 720) (by decide +kernel), List.mem_of_getElem? (i := 900) (by decide +kernel), List.mem_of_getElem? (i := 901) (by decide +kernel)⟩
theorem lw_p53 : lw_okq (⟨"BottleneckShopModel", "lastEnd", "()I"⟩, 25) := ⟨⟨by decide +kernel, by decide +kernel⟩, List.mem_of_getElem? (i := 720) (by decide +kernel), List.mem_of_getElem? (i := 904) (by decide +kernel), List.mem_of_getElem? (i := 905) (by decide +kernel)⟩
theorem lw_p54 : lw_okq (⟨"BottleneckShopModel", "exchange", "(II)V"⟩, 25) := ⟨⟨by decide +kernel, by decide +kernel⟩, List.mem_of_getElem? (i := 720) (by decide +kernel), List.mem_of_getElem? (i := 912) (by decide +kernel), List.mem_of_getElem? (i := 913) (by decide +kernel)⟩
theorem lw_p55 : lw_okq (⟨"BottleneckShopModel", "findCritical", "()V"⟩, 25) := ⟨⟨by decide +kernel, by decide +kernel⟩, List.mem_of_getElem? (i := 720) (by decide +kernel), List.mem_of_getElem? (i := 920) (by decide +kernel), List.mem_of_getElem? (i := 921) (by decide +kernel)⟩
theorem lw_p56 : lw_okq (⟨"BottleneckShopModel", "isCritical", "(I)Z"⟩, 25) := ⟨⟨by decide +kernel, by decide +kernel⟩, List.mem_of_getElem? (i := 720) (by decide +kernel), List.mem_of_getElem? (i := 924) (by decide +kernel), List.mem_of_getElem? (i := 925) (by decide +kernel)⟩
theorem lw_p57 : lw_okq (⟨"BottleneckShopModel", "throughOf", "(I)I"⟩, 25) := ⟨⟨by decide +kernel, by decide +kernel⟩, List.mem_of_getElem? (i := 720) (by decide +kernel), List.mem_of_getElem? (i := 928) (by decide +kernel), List.mem_of_getElem? (i := 929) (by decide +kernel)⟩
theorem lw_p58 : lw_okq (⟨"BottleneckShopModel", "placeOf", "(I)I"⟩, 25) := ⟨⟨by decide +kernel, by decide +kernel⟩, List.mem_of_getElem? (i := 720) (by decide +kernel), List.mem_of_getElem? (i := 932) (by decide +kernel), List.mem_of_getElem? (i := 933) (by decide +kernel)⟩
theorem lw_p59 : lw_okq (⟨"BottleneckShopModel", "goesOn", "(II)Z"⟩, 25) := ⟨⟨by decide +kernel, by decide +kernel⟩, List.mem_of_getElem? (i := 720) (by decide +kernel), List.mem_of_getElem? (i := 936) (by decide +kernel), List.mem_of_getElem? (i := 937) (by decide +kernel)⟩
theorem lw_p60 : lw_okq (⟨"BottleneckShopModel", "findBest", "()I"⟩, 25) := ⟨⟨by decide +kernel, by decide +kernel⟩, List.mem_of_getElem? (i := 720) (by decide +kernel), List.mem_of_getElem? (i := 944) (by decide +kernel), List.mem_of_getElem? (i := 945) (by decide +kernel)⟩
theorem lw_p61 : lw_okq (⟨"BottleneckShopModel", "keepOrders", "()V"⟩, 25) := ⟨⟨by decide +kernel, by decide +kernel⟩, List.mem_of_getElem? (i := 720) (by decide +kernel), List.mem_of_getElem? (i := 948) (by decide +kernel), List.mem_of_getElem? (i := 949) (by decide +kernel)⟩
theorem lw_p62 : lw_okq (⟨"BottleneckShopModel", "layPlans", "(II)V"⟩, 25) := ⟨⟨by decide +kernel, by decide +kernel⟩, List.mem_of_getElem? (i := 720) (by decide +kernel), List.mem_of_getElem? (i := 952) (by decide +kernel), List.mem_of_getElem? (i := 953) (by decide +kernel)⟩
theorem lw_p63 : lw_okq (⟨"BottleneckShopModel", "nextPlan", "(III)Z"⟩, 25) := ⟨⟨by decide +kernel, by decide +kernel⟩, List.mem_of_getElem? (i := 720) (by decide +kernel), List.mem_of_getElem? (i := 956) (by decide +kernel), List.mem_of_getElem? (i := 957) (by decide +kernel)⟩
def lw_privs_4 : List (MethodName × Nat) := [(⟨"BottleneckShopModel", "beforeOnRoute", "(I)I"⟩, 25), (⟨"BottleneckShopModel", "endOf", "(I)I"⟩, 25), (⟨"BottleneckShopModel", "findTails", "()V"⟩, 25), (⟨"BottleneckShopModel", "behindOnRoute", "(I)I"⟩, 25), (⟨"BottleneckShopModel", "withTail", "(I)I"⟩, 25), (⟨"BottleneckShopModel", "lastEnd", "()I"⟩, 25), (⟨"BottleneckShopModel", "exchange", "(II)V"⟩, 25), (⟨"BottleneckShopModel", "findCritical", "()V"⟩, 25), (⟨"BottleneckShopModel", "isCritical", "(I)Z"⟩, 25), (⟨"BottleneckShopModel", "throughOf", "(I)I"⟩, 25), (⟨"BottleneckShopModel", "placeOf", "(I)I"⟩, 25), (⟨"BottleneckShopModel", "goesOn", "(II)Z"⟩, 25), (⟨"BottleneckShopModel", "findBest", "()I"⟩, 25), (⟨"BottleneckShopModel", "keepOrders", "()V"⟩, 25), (⟨"BottleneckShopModel", "layPlans", "(II)V"⟩, 25), (⟨"BottleneckShopModel", "nextPlan", "(III)Z"⟩, 25)]
theorem lw_r4 : ∀ q ∈ lw_privs_4, lw_okq q := List.forall_mem_cons.mpr ⟨lw_p48, List.forall_mem_cons.mpr ⟨lw_p49, List.forall_mem_cons.mpr ⟨lw_p50, List.forall_mem_cons.mpr ⟨lw_p51, List.forall_mem_cons.mpr ⟨lw_p52, List.forall_mem_cons.mpr ⟨lw_p53, List.forall_mem_cons.mpr ⟨lw_p54, List.forall_mem_cons.mpr ⟨lw_p55, List.forall_mem_cons.mpr ⟨lw_p56, List.forall_mem_cons.mpr ⟨lw_p57, List.forall_mem_cons.mpr ⟨lw_p58, List.forall_mem_cons.mpr ⟨lw_p59, List.forall_mem_cons.mpr ⟨lw_p60, List.forall_mem_cons.mpr ⟨lw_p61, List.forall_mem_cons.mpr ⟨lw_p62, List.forall_mem_cons.mpr ⟨lw_p63, fun _ h => absurd h List.not_mem_nil⟩⟩⟩⟩⟩⟩⟩⟩⟩⟩⟩⟩⟩⟩⟩⟩
theorem lw_p64 : lw_okq (⟨"BottleneckShopModel", "search", "()I"⟩, 25) := ⟨⟨by decide +kernel, by decide +kernel⟩, List.mem_of_getElem? (i := 720) (by decide +kernel), List.mem_of_getElem? (i := 960) (by decide +kernel), List.mem_of_getElem? (i := 961) (by decide +kernel)⟩
theorem lw_p65 : lw_okq (⟨"BottleneckShopModel", "layTried", "(I)V"⟩, 25) := ⟨⟨by decide +kernel, by decide +kernel⟩, List.mem_of_getElem? (i := 720) (by decide +kernel), List.mem_of_getElem? (i := 965) (by decide +kernel), List.mem_of_getElem? (i := 966) (by decide +kernel)⟩
theorem lw_p66 : lw_okq (⟨"BottleneckShopModel", "keepFound", "()V"⟩, 25) := ⟨⟨by decide +kernel, by decide +kernel⟩, List.mem_of_getElem? (i := 720) (by decide +kernel), List.mem_of_getElem? (i := 969) (by decide +kernel), List.mem_of_getElem? (i := 970) (by decide +kernel)⟩
theorem lw_p67 : lw_okq (⟨"BottleneckShopModel", "putOrders", "([I)V"⟩, 25) := ⟨⟨by decide +kernel, by decide +kernel⟩, List.mem_of_getElem? (i := 720) (by decide +kernel), List.mem_of_getElem? (i := 973) (by decide +kernel), List.mem_of_getElem? (i := 974) (by decide +kernel)⟩
theorem lw_p68 : lw_okq (⟨"BottleneckShopModel", "foundAt", "(II)I"⟩, 25) := ⟨⟨by decide +kernel, by decide +kernel⟩, List.mem_of_getElem? (i := 720) (by decide +kernel), List.mem_of_getElem? (i := 981) (by decide +kernel), List.mem_of_getElem? (i := 982) (by decide +kernel)⟩
theorem lw_p69 : lw_okq (⟨"BottleneckShopModel", "layStays", "(IIII)I"⟩, 25) := ⟨⟨by decide +kernel, by decide +kernel⟩, List.mem_of_getElem? (i := 720) (by decide +kernel), List.mem_of_getElem? (i := 989) (by decide +kernel), List.mem_of_getElem? (i := 990) (by decide +kernel)⟩
theorem lw_p70 : lw_okq (⟨"BottleneckShopModel", "placeOnPath", "(I)I"⟩, 25) := ⟨⟨by decide +kernel, by decide +kernel⟩, List.mem_of_getElem? (i := 720) (by decide +kernel), List.mem_of_getElem? (i := 997) (by decide +kernel), List.mem_of_getElem? (i := 998) (by decide +kernel)⟩
theorem lw_p71 : lw_okq (⟨"BottleneckShopModel", "sumOf", "(I)I"⟩, 25) := ⟨⟨by decide +kernel, by decide +kernel⟩, List.mem_of_getElem? (i := 720) (by decide +kernel), List.mem_of_getElem? (i := 1013) (by decide +kernel), List.mem_of_getElem? (i := 1014) (by decide +kernel)⟩
theorem lw_p72 : lw_okq (⟨"BottleneckShopModel", "endOfJob", "(I)I"⟩, 25) := ⟨⟨by decide +kernel, by decide +kernel⟩, List.mem_of_getElem? (i := 720) (by decide +kernel), List.mem_of_getElem? (i := 1017) (by decide +kernel), List.mem_of_getElem? (i := 1018) (by decide +kernel)⟩
theorem lw_p73 : lw_okq (⟨"BottleneckShopModel", "lateness", "(I)I"⟩, 25) := ⟨⟨by decide +kernel, by decide +kernel⟩, List.mem_of_getElem? (i := 720) (by decide +kernel), List.mem_of_getElem? (i := 1021) (by decide +kernel), List.mem_of_getElem? (i := 1022) (by decide +kernel)⟩
theorem lw_p74 : lw_okq (⟨"BottleneckShopModel", "ofPlan", "(I)I"⟩, 25) := ⟨⟨by decide +kernel, by decide +kernel⟩, List.mem_of_getElem? (i := 720) (by decide +kernel), List.mem_of_getElem? (i := 1029) (by decide +kernel), List.mem_of_getElem? (i := 1030) (by decide +kernel)⟩
theorem lw_p75 : lw_okq (⟨"BottleneckShopModel", "blocks", "()I"⟩, 25) := ⟨⟨by decide +kernel, by decide +kernel⟩, List.mem_of_getElem? (i := 720) (by decide +kernel), List.mem_of_getElem? (i := 1033) (by decide +kernel), List.mem_of_getElem? (i := 1034) (by decide +kernel)⟩
theorem lw_p76 : lw_okq (⟨"BottleneckShopModel", "sumOfAll", "(Z)I"⟩, 25) := ⟨⟨by decide +kernel, by decide +kernel⟩, List.mem_of_getElem? (i := 720) (by decide +kernel), List.mem_of_getElem? (i := 1037) (by decide +kernel), List.mem_of_getElem? (i := 1038) (by decide +kernel)⟩
theorem lw_p77 : lw_okq (⟨"BottleneckShopModel", "boundOf", "(I)I"⟩, 25) := ⟨⟨by decide +kernel, by decide +kernel⟩, List.mem_of_getElem? (i := 720) (by decide +kernel), List.mem_of_getElem? (i := 1045) (by decide +kernel), List.mem_of_getElem? (i := 1046) (by decide +kernel)⟩
theorem lw_p78 : lw_okq (⟨"BottleneckShopModel", "workedOn", "(II)I"⟩, 25) := ⟨⟨by decide +kernel, by decide +kernel⟩, List.mem_of_getElem? (i := 720) (by decide +kernel), List.mem_of_getElem? (i := 1049) (by decide +kernel), List.mem_of_getElem? (i := 1050) (by decide +kernel)⟩
theorem lw_p79 : lw_okq (⟨"BottleneckShopModel", "headAlone", "(I)I"⟩, 25) := ⟨⟨by decide +kernel, by decide +kernel⟩, List.mem_of_getElem? (i := 720) (by decide +kernel), List.mem_of_getElem? (i := 1053) (by decide +kernel), List.mem_of_getElem? (i := 1054) (by decide +kernel)⟩
def lw_privs_5 : List (MethodName × Nat) := [(⟨"BottleneckShopModel", "search", "()I"⟩, 25), (⟨"BottleneckShopModel", "layTried", "(I)V"⟩, 25), (⟨"BottleneckShopModel", "keepFound", "()V"⟩, 25), (⟨"BottleneckShopModel", "putOrders", "([I)V"⟩, 25), (⟨"BottleneckShopModel", "foundAt", "(II)I"⟩, 25), (⟨"BottleneckShopModel", "layStays", "(IIII)I"⟩, 25), (⟨"BottleneckShopModel", "placeOnPath", "(I)I"⟩, 25), (⟨"BottleneckShopModel", "sumOf", "(I)I"⟩, 25), (⟨"BottleneckShopModel", "endOfJob", "(I)I"⟩, 25), (⟨"BottleneckShopModel", "lateness", "(I)I"⟩, 25), (⟨"BottleneckShopModel", "ofPlan", "(I)I"⟩, 25), (⟨"BottleneckShopModel", "blocks", "()I"⟩, 25), (⟨"BottleneckShopModel", "sumOfAll", "(Z)I"⟩, 25), (⟨"BottleneckShopModel", "boundOf", "(I)I"⟩, 25), (⟨"BottleneckShopModel", "workedOn", "(II)I"⟩, 25), (⟨"BottleneckShopModel", "headAlone", "(I)I"⟩, 25)]
theorem lw_r5 : ∀ q ∈ lw_privs_5, lw_okq q := List.forall_mem_cons.mpr ⟨lw_p64, List.forall_mem_cons.mpr ⟨lw_p65, List.forall_mem_cons.mpr ⟨lw_p66, List.forall_mem_cons.mpr ⟨lw_p67, List.forall_mem_cons.mpr ⟨lw_p68, List.forall_mem_cons.mpr ⟨lw_p69, List.forall_mem_cons.mpr ⟨lw_p70, List.forall_mem_cons.mpr ⟨lw_p71, List.forall_mem_cons.mpr ⟨lw_p72, List.forall_mem_cons.mpr ⟨lw_p73, List.forall_mem_cons.mpr ⟨lw_p74, List.forall_mem_cons.mpr ⟨lw_p75, List.forall_mem_cons.mpr ⟨lw_p76, List.forall_mem_cons.mpr ⟨lw_p77, List.forall_mem_cons.mpr ⟨lw_p78, List.forall_mem_cons.mpr ⟨lw_p79, fun _ h => absurd h List.not_mem_nil⟩⟩⟩⟩⟩⟩⟩⟩⟩⟩⟩⟩⟩⟩⟩⟩
theorem lw_p80 : lw_okq (⟨"BottleneckShopModel", "tailAlone", "(I)I"⟩, 25) := ⟨⟨by decide +kernel, by decide +kernel⟩, List.mem_of_getElem? (i := 720) (by decide +kernel), List.mem_of_getElem? (i := 1057) (by decide +kernel), List.mem_of_getElem? (i := 1058) (by decide +kernel)⟩
theorem lw_p81 : lw_okq (⟨"BottleneckShopModel", "force", "(I)Z"⟩, 25) := ⟨⟨by decide +kernel, by decide +kernel⟩, List.mem_of_getElem? (i := 720) (by decide +kernel), List.mem_of_getElem? (i := 1065) (by decide +kernel), List.mem_of_getElem? (i := 1066) (by decide +kernel)⟩
theorem lw_p82 : lw_okq (⟨"BottleneckShopModel", "findForced", "()Z"⟩, 25) := ⟨⟨by decide +kernel, by decide +kernel⟩, List.mem_of_getElem? (i := 720) (by decide +kernel), List.mem_of_getElem? (i := 1069) (by decide +kernel), List.mem_of_getElem? (i := 1070) (by decide +kernel)⟩
theorem lw_p83 : lw_okq (⟨"BottleneckShopModel", "headBy", "(I)I"⟩, 25) := ⟨⟨by decide +kernel, by decide +kernel⟩, List.mem_of_getElem? (i := 720) (by decide +kernel), List.mem_of_getElem? (i := 1073) (by decide +kernel), List.mem_of_getElem? (i := 1074) (by decide +kernel)⟩
theorem lw_p84 : lw_okq (⟨"BottleneckShopModel", "isSet", "(II)Z"⟩, 25) := ⟨⟨by decide +kernel, by decide +kernel⟩, List.mem_of_getElem? (i := 720) (by decide +kernel), List.mem_of_getElem? (i := 1077) (by decide +kernel), List.mem_of_getElem? (i := 1078) (by decide +kernel)⟩
theorem lw_p85 : lw_okq (⟨"BottleneckShopModel", "tailBy", "(I)I"⟩, 25) := ⟨⟨by decide +kernel, by decide +kernel⟩, List.mem_of_getElem? (i := 720) (by decide +kernel), List.mem_of_getElem? (i := 1081) (by decide +kernel), List.mem_of_getElem? (i := 1082) (by decide +kernel)⟩
theorem lw_p86 : lw_okq (⟨"BottleneckShopModel", "areTwo", "(II)Z"⟩, 25) := ⟨⟨by decide +kernel, by decide +kernel⟩, List.mem_of_getElem? (i := 720) (by decide +kernel), List.mem_of_getElem? (i := 1085) (by decide +kernel), List.mem_of_getElem? (i := 1086) (by decide +kernel)⟩
theorem lw_p87 : lw_okq (⟨"BottleneckShopModel", "isForcedBoth", "()Z"⟩, 25) := ⟨⟨by decide +kernel, by decide +kernel⟩, List.mem_of_getElem? (i := 720) (by decide +kernel), List.mem_of_getElem? (i := 1089) (by decide +kernel), List.mem_of_getElem? (i := 1090) (by decide +kernel)⟩
theorem lw_p88 : lw_okq (⟨"BottleneckShopModel", "faultOf", "(I)I"⟩, 25) := ⟨⟨by decide +kernel, by decide +kernel⟩, List.mem_of_getElem? (i := 720) (by decide +kernel), List.mem_of_getElem? (i := 1110) (by decide +kernel), List.mem_of_getElem? (i := 1111) (by decide +kernel)⟩
theorem lw_p89 : lw_okq (⟨"BottleneckShopModel", "takePart", "(I)V"⟩, 25) := ⟨⟨by decide +kernel, by decide +kernel⟩, List.mem_of_getElem? (i := 720) (by decide +kernel), List.mem_of_getElem? (i := 1114) (by decide +kernel), List.mem_of_getElem? (i := 1115) (by decide +kernel)⟩
theorem lw_p90 : lw_okq (⟨"BottleneckShopModel", "takeRoute", "()V"⟩, 25) := ⟨⟨by decide +kernel, by decide +kernel⟩, List.mem_of_getElem? (i := 720) (by decide +kernel), List.mem_of_getElem? (i := 1118) (by decide +kernel), List.mem_of_getElem? (i := 1119) (by decide +kernel)⟩
theorem lw_p91 : lw_okq (⟨"BottleneckShopModel", "need", "(I)V"⟩, 25) := ⟨⟨by decide +kernel, by decide +kernel⟩, List.mem_of_getElem? (i := 720) (by decide +kernel), List.mem_of_getElem? (i := 1122) (by decide +kernel), List.mem_of_getElem? (i := 1123) (by decide +kernel)⟩
theorem lw_p92 : lw_okq (⟨"BottleneckShopModel", "next", "()I"⟩, 25) := ⟨⟨by decide +kernel, by decide +kernel⟩, List.mem_of_getElem? (i := 720) (by decide +kernel), List.mem_of_getElem? (i := 1126) (by decide +kernel), List.mem_of_getElem? (i := 1127) (by decide +kernel)⟩
theorem lw_p93 : lw_okq (⟨"BottleneckShopModel", "takeNumber", "(II)I"⟩, 25) := ⟨⟨by decide +kernel, by decide +kernel⟩, List.mem_of_getElem? (i := 720) (by decide +kernel), List.mem_of_getElem? (i := 1130) (by decide +kernel), List.mem_of_getElem? (i := 1131) (by decide +kernel)⟩
theorem lw_p94 : lw_okq (⟨"BottleneckShopModel", "takeDigit", "(I)I"⟩, 25) := ⟨⟨by decide +kernel, by decide +kernel⟩, List.mem_of_getElem? (i := 720) (by decide +kernel), List.mem_of_getElem? (i := 1134) (by decide +kernel), List.mem_of_getElem? (i := 1135) (by decide +kernel)⟩
theorem lw_p95 : lw_okq (⟨"BottleneckShopModel", "takeOrder", "()V"⟩, 25) := ⟨⟨by decide +kernel, by decide +kernel⟩, List.mem_of_getElem? (i := 720) (by decide +kernel), List.mem_of_getElem? (i := 1138) (by decide +kernel), List.mem_of_getElem? (i := 1139) (by decide +kernel)⟩
def lw_privs_6 : List (MethodName × Nat) := [(⟨"BottleneckShopModel", "tailAlone", "(I)I"⟩, 25), (⟨"BottleneckShopModel", "force", "(I)Z"⟩, 25), (⟨"BottleneckShopModel", "findForced", "()Z"⟩, 25), (⟨"BottleneckShopModel", "headBy", "(I)I"⟩, 25), (⟨"BottleneckShopModel", "isSet", "(II)Z"⟩, 25), (⟨"BottleneckShopModel", "tailBy", "(I)I"⟩, 25), (⟨"BottleneckShopModel", "areTwo", "(II)Z"⟩, 25), (⟨"BottleneckShopModel", "isForcedBoth", "()Z"⟩, 25), (⟨"BottleneckShopModel", "faultOf", "(I)I"⟩, 25), (⟨"BottleneckShopModel", "takePart", "(I)V"⟩, 25), (⟨"BottleneckShopModel", "takeRoute", "()V"⟩, 25), (⟨"BottleneckShopModel", "need", "(I)V"⟩, 25), (⟨"BottleneckShopModel", "next", "()I"⟩, 25), (⟨"BottleneckShopModel", "takeNumber", "(II)I"⟩, 25), (⟨"BottleneckShopModel", "takeDigit", "(I)I"⟩, 25), (⟨"BottleneckShopModel", "takeOrder", "()V"⟩, 25)]
theorem lw_r6 : ∀ q ∈ lw_privs_6, lw_okq q := List.forall_mem_cons.mpr ⟨lw_p80, List.forall_mem_cons.mpr ⟨lw_p81, List.forall_mem_cons.mpr ⟨lw_p82, List.forall_mem_cons.mpr ⟨lw_p83, List.forall_mem_cons.mpr ⟨lw_p84, List.forall_mem_cons.mpr ⟨lw_p85, List.forall_mem_cons.mpr ⟨lw_p86, List.forall_mem_cons.mpr ⟨lw_p87, List.forall_mem_cons.mpr ⟨lw_p88, List.forall_mem_cons.mpr ⟨lw_p89, List.forall_mem_cons.mpr ⟨lw_p90, List.forall_mem_cons.mpr ⟨lw_p91, List.forall_mem_cons.mpr ⟨lw_p92, List.forall_mem_cons.mpr ⟨lw_p93, List.forall_mem_cons.mpr ⟨lw_p94, List.forall_mem_cons.mpr ⟨lw_p95, fun _ h => absurd h List.not_mem_nil⟩⟩⟩⟩⟩⟩⟩⟩⟩⟩⟩⟩⟩⟩⟩⟩
theorem lw_p96 : lw_okq (⟨"BottleneckShopModel", "fitsOrder", "(I)Z"⟩, 25) := ⟨⟨by decide +kernel, by decide +kernel⟩, List.mem_of_getElem? (i := 720) (by decide +kernel), List.mem_of_getElem? (i := 1150) (by decide +kernel), List.mem_of_getElem? (i := 1151) (by decide +kernel)⟩
def lw_privs_7 : List (MethodName × Nat) := [(⟨"BottleneckShopModel", "fitsOrder", "(I)Z"⟩, 25)]
theorem lw_r7 : ∀ q ∈ lw_privs_7, lw_okq q := List.forall_mem_cons.mpr ⟨lw_p96, fun _ h => absurd h List.not_mem_nil⟩
def lw_privs : List (MethodName × Nat) := lw_privs_1 ++ (lw_privs_2 ++ (lw_privs_3 ++ (lw_privs_4 ++ (lw_privs_5 ++ (lw_privs_6 ++ (lw_privs_7))))))
def lw_tbl : List Cond := k2_sels lw_privs ++ tables_1
theorem lw_privs_ok : ∀ q ∈ lw_privs, lw_okq q := by
  show ∀ q ∈ lw_privs_1 ++ (lw_privs_2 ++ (lw_privs_3 ++ (lw_privs_4 ++ (lw_privs_5 ++ (lw_privs_6 ++ (lw_privs_7)))))), lw_okq q
  exact List.forall_mem_append.mpr ⟨lw_r1, List.forall_mem_append.mpr ⟨lw_r2, List.forall_mem_append.mpr ⟨lw_r3, List.forall_mem_append.mpr ⟨lw_r4, List.forall_mem_append.mpr ⟨lw_r5, List.forall_mem_append.mpr ⟨lw_r6, lw_r7⟩⟩⟩⟩⟩⟩
end
section
def RX0 : String := "BottleneckShop$History"
def TX0 : u_T := fun k => match k with
  | 0 => ("BottleneckShop$History", "states", "[LBottleneckShop$State;", true)
  | 1 => ("BottleneckShop$History", "recorded", "I", false)
  | _ => ("BottleneckShop$History", "newest", "I", false)
def tyX0 : Nat → FieldType := fun k => match k with
  | 0 => .array (.object "BottleneckShop$State")
  | 1 => .int
  | _ => .int
abbrev wsX00 : List Cond := u_ws RX0 TX0 3
theorem nmX0 : ∀ a, a < 3 → ∀ b, b < 3 → a ≠ b → (TX0 a).2.1 ≠ (TX0 b).2.1 := by decide +kernel
theorem tyX0_ok : ∀ k, k < 3 → parseFieldDescriptor (TX0 k).2.2.1 = some (tyX0 k) := by decide +kernel
abbrev cX0_init : ByteArray := prog_2_method_1_code
def yX0_init : MethodName := ⟨RX0, "<init>", "()V"⟩
abbrev cX0_record : ByteArray := prog_2_method_2_code
def yX0_record : MethodName := ⟨RX0, "record", "(LBottleneckShop$State;)V"⟩
abbrev cX0_takeBack : ByteArray := prog_2_method_3_code
def yX0_takeBack : MethodName := ⟨RX0, "takeBack", "(LBottleneckShop$State;)V"⟩
def RX1 : String := "BottleneckShop$Net"
def TX1 : u_T := fun k => match k with
  | 0 => ("BottleneckShop$Net", "steps", "[I", true)
  | 1 => ("BottleneckShop$Net", "machine", "[I", true)
  | 2 => ("BottleneckShop$Net", "duration", "[I", true)
  | 3 => ("BottleneckShop$Net", "ready", "[I", true)
  | 4 => ("BottleneckShop$Net", "on", "[I", true)
  | 5 => ("BottleneckShop$Net", "ahead", "[I", true)
  | 6 => ("BottleneckShop$Net", "head", "[I", true)
  | 7 => ("BottleneckShop$Net", "tail", "[I", true)
  | 8 => ("BottleneckShop$Net", "longest", "I", false)
  | 9 => ("BottleneckShop$Net", "operations", "I", false)
  | 10 => ("BottleneckShop$Net", "sorted", "[I", true)
  | 11 => ("BottleneckShop$Net", "sortedSize", "I", false)
  | 12 => ("BottleneckShop$Net", "sortedSteps", "[I", true)
  | 13 => ("BottleneckShop$Net", "sortedOn", "[I", true)
  | _ => ("BottleneckShop$Net", "unfinished", "[I", true)
def tyX1 : Nat → FieldType := fun k => match k with
  | 0 => .array .int
  | 1 => .array .int
  | 2 => .array .int
  | 3 => .array .int
  | 4 => .array .int
  | 5 => .array .int
  | 6 => .array .int
  | 7 => .array .int
  | 8 => .int
  | 9 => .int
  | 10 => .array .int
  | 11 => .int
  | 12 => .array .int
  | 13 => .array .int
  | _ => .array .int
abbrev wsX10 : List Cond := u_ws RX1 TX1 15
theorem nmX1 : ∀ a, a < 15 → ∀ b, b < 15 → a ≠ b → (TX1 a).2.1 ≠ (TX1 b).2.1 := by decide +kernel
theorem tyX1_ok : ∀ k, k < 15 → parseFieldDescriptor (TX1 k).2.2.1 = some (tyX1 k) := by decide +kernel
abbrev cX1_init : ByteArray := prog_3_method_1_code
def yX1_init : MethodName := ⟨RX1, "<init>", "()V"⟩
abbrev cX1_load : ByteArray := prog_3_method_2_code
def yX1_load : MethodName := ⟨RX1, "load", "(LBottleneckShop$State;)V"⟩
abbrev cX1_followOrders : ByteArray := prog_3_method_3_code
def yX1_followOrders : MethodName := ⟨RX1, "followOrders", "(LBottleneckShop$State;)V"⟩
abbrev cX1_followOrder : ByteArray := prog_3_method_4_code
def yX1_followOrder : MethodName := ⟨RX1, "followOrder", "(LBottleneckShop$State;II)V"⟩
abbrev cX1_letFirst : ByteArray := prog_3_method_5_code
def yX1_letFirst : MethodName := ⟨RX1, "letFirst", "(III)V"⟩
abbrev cX1_decide : ByteArray := prog_3_method_6_code
def yX1_decide : MethodName := ⟨RX1, "decide", "(II)V"⟩
abbrev cX1_goesAhead : ByteArray := prog_3_method_7_code
def yX1_goesAhead : MethodName := ⟨RX1, "goesAhead", "(II)Z"⟩
abbrev cX1_undecided : ByteArray := prog_3_method_8_code
def yX1_undecided : MethodName := ⟨RX1, "undecided", "(II)Z"⟩
abbrev cX1_wayThrough : ByteArray := prog_3_method_9_code
def yX1_wayThrough : MethodName := ⟨RX1, "wayThrough", "(II)I"⟩
abbrev cX1_jobsOn : ByteArray := prog_3_method_10_code
def yX1_jobsOn : MethodName := ⟨RX1, "jobsOn", "(I)I"⟩
abbrev cX1_holdBack : ByteArray := prog_3_method_11_code
def yX1_holdBack : MethodName := ⟨RX1, "holdBack", "(II)V"⟩
abbrev cX1_endOf : ByteArray := prog_3_method_12_code
def yX1_endOf : MethodName := ⟨RX1, "endOf", "(I)I"⟩
abbrev cX1_slackOf : ByteArray := prog_3_method_13_code
def yX1_slackOf : MethodName := ⟨RX1, "slackOf", "(I)I"⟩
abbrev cX1_decidedPairs : ByteArray := prog_3_method_14_code
def yX1_decidedPairs : MethodName := ⟨RX1, "decidedPairs", "()I"⟩
abbrev cX1_measure : ByteArray := prog_3_method_15_code
def yX1_measure : MethodName := ⟨RX1, "measure", "()Z"⟩
abbrev cX1_sortAlong : ByteArray := prog_3_method_16_code
def yX1_sortAlong : MethodName := ⟨RX1, "sortAlong", "(I)V"⟩
abbrev cX1_headOf : ByteArray := prog_3_method_17_code
def yX1_headOf : MethodName := ⟨RX1, "headOf", "(I)I"⟩
abbrev cX1_tailOf : ByteArray := prog_3_method_18_code
def yX1_tailOf : MethodName := ⟨RX1, "tailOf", "(I)I"⟩
abbrev cX1_keeps : ByteArray := prog_3_method_19_code
def yX1_keeps : MethodName := ⟨RX1, "keeps", "(I)Z"⟩
abbrev cX1_forceOn : ByteArray := prog_3_method_20_code
def yX1_forceOn : MethodName := ⟨RX1, "forceOn", "(II)I"⟩
abbrev cX1_longestPair : ByteArray := prog_3_method_21_code
def yX1_longestPair : MethodName := ⟨RX1, "longestPair", "()I"⟩
abbrev cX1_greatestBound : ByteArray := prog_3_method_22_code
def yX1_greatestBound : MethodName := ⟨RX1, "greatestBound", "()I"⟩
abbrev cX1_boundOf : ByteArray := prog_3_method_23_code
def yX1_boundOf : MethodName := ⟨RX1, "boundOf", "(I)I"⟩
abbrev cX1_nextHead : ByteArray := prog_3_method_24_code
def yX1_nextHead : MethodName := ⟨RX1, "nextHead", "(II)I"⟩
abbrev cX1_mostUrgent : ByteArray := prog_3_method_25_code
def yX1_mostUrgent : MethodName := ⟨RX1, "mostUrgent", "(II)I"⟩
def RX2 : String := "BottleneckShop$Pad"
def TX2 : u_T := fun k => match k with
  | 0 => ("BottleneckShop$Pad", "text", "[C", true)
  | 1 => ("BottleneckShop$Pad", "length", "I", false)
  | 2 => ("BottleneckShop$Pad", "at", "I", false)
  | _ => ("BottleneckShop$Pad", "machinesNamed", "I", false)
def tyX2 : Nat → FieldType := fun k => match k with
  | 0 => .array .char
  | 1 => .int
  | 2 => .int
  | _ => .int
abbrev wsX20 : List Cond := u_ws RX2 TX2 4
theorem nmX2 : ∀ a, a < 4 → ∀ b, b < 4 → a ≠ b → (TX2 a).2.1 ≠ (TX2 b).2.1 := by decide +kernel
theorem tyX2_ok : ∀ k, k < 4 → parseFieldDescriptor (TX2 k).2.2.1 = some (tyX2 k) := by decide +kernel
abbrev cX2_init : ByteArray := prog_4_method_1_code
def yX2_init : MethodName := ⟨RX2, "<init>", "()V"⟩
abbrev cX2_append : ByteArray := prog_4_method_2_code
def yX2_append : MethodName := ⟨RX2, "append", "(C)V"⟩
abbrev cX2_names : ByteArray := prog_4_method_3_code
def yX2_names : MethodName := ⟨RX2, "names", "(I)Z"⟩
abbrev cX2_readRoutes : ByteArray := prog_4_method_4_code
def yX2_readRoutes : MethodName := ⟨RX2, "readRoutes", "(LBottleneckShop$State;)I"⟩
abbrev cX2_readJob : ByteArray := prog_4_method_5_code
def yX2_readJob : MethodName := ⟨RX2, "readJob", "(LBottleneckShop$State;)Z"⟩
abbrev cX2_readOperation : ByteArray := prog_4_method_6_code
def yX2_readOperation : MethodName := ⟨RX2, "readOperation", "(LBottleneckShop$State;I)Z"⟩
abbrev cX2_readPlan : ByteArray := prog_4_method_7_code
def yX2_readPlan : MethodName := ⟨RX2, "readPlan", "(LBottleneckShop$State;)I"⟩
abbrev cX2_readOrder : ByteArray := prog_4_method_8_code
def yX2_readOrder : MethodName := ⟨RX2, "readOrder", "(LBottleneckShop$State;)Z"⟩
abbrev cX2_anotherJobFor : ByteArray := prog_4_method_9_code
def yX2_anotherJobFor : MethodName := ⟨RX2, "anotherJobFor", "(I)Z"⟩
abbrev cX2_take : ByteArray := prog_4_method_10_code
def yX2_take : MethodName := ⟨RX2, "take", "(C)Z"⟩
abbrev cX2_digit : ByteArray := prog_4_method_11_code
def yX2_digit : MethodName := ⟨RX2, "digit", "()I"⟩
abbrev cX2_number : ByteArray := prog_4_method_12_code
def yX2_number : MethodName := ⟨RX2, "number", "(II)I"⟩
def RX3 : String := "BottleneckShop$Path"
def TX3 : u_T := fun k => match k with
  | 0 => ("BottleneckShop$Path", "operations", "[I", true)
  | _ => ("BottleneckShop$Path", "size", "I", false)
def tyX3 : Nat → FieldType := fun k => match k with
  | 0 => .array .int
  | _ => .int
abbrev wsX30 : List Cond := u_ws RX3 TX3 2
theorem nmX3 : ∀ a, a < 2 → ∀ b, b < 2 → a ≠ b → (TX3 a).2.1 ≠ (TX3 b).2.1 := by decide +kernel
theorem tyX3_ok : ∀ k, k < 2 → parseFieldDescriptor (TX3 k).2.2.1 = some (tyX3 k) := by decide +kernel
abbrev cX3_init : ByteArray := prog_5_method_1_code
def yX3_init : MethodName := ⟨RX3, "<init>", "()V"⟩
abbrev cX3_trace : ByteArray := prog_5_method_2_code
def yX3_trace : MethodName := ⟨RX3, "trace", "(LBottleneckShop$Net;LBottleneckShop$State;)V"⟩
abbrev cX3_first : ByteArray := prog_5_method_3_code
def yX3_first : MethodName := ⟨RX3, "first", "(LBottleneckShop$Net;LBottleneckShop$State;)I"⟩
abbrev cX3_next : ByteArray := prog_5_method_4_code
def yX3_next : MethodName := ⟨RX3, "next", "(LBottleneckShop$Net;LBottleneckShop$State;I)I"⟩
abbrev cX3_goesOn : ByteArray := prog_5_method_5_code
def yX3_goesOn : MethodName := ⟨RX3, "goesOn", "(LBottleneckShop$Net;II)Z"⟩
abbrev cX3_placeOf : ByteArray := prog_5_method_6_code
def yX3_placeOf : MethodName := ⟨RX3, "placeOf", "(I)I"⟩
abbrev cX3_blocks : ByteArray := prog_5_method_7_code
def yX3_blocks : MethodName := ⟨RX3, "blocks", "(LBottleneckShop$State;)I"⟩
def RX4 : String := "BottleneckShop$Search"
def TX4 : u_T := fun k => match k with
  | 0 => ("BottleneckShop$Search", "net", "LBottleneckShop$Net;", true)
  | 1 => ("BottleneckShop$Search", "known", "Z", false)
  | 2 => ("BottleneckShop$Search", "least", "I", false)
  | 3 => ("BottleneckShop$Search", "found", "[I", true)
  | 4 => ("BottleneckShop$Search", "settled", "[I", true)
  | 5 => ("BottleneckShop$Search", "tried", "[I", true)
  | 6 => ("BottleneckShop$Search", "witness", "[I", true)
  | _ => ("BottleneckShop$Search", "kept", "[[I", true)
def tyX4 : Nat → FieldType := fun k => match k with
  | 0 => .object "BottleneckShop$Net"
  | 1 => .boolean
  | 2 => .int
  | 3 => .array .int
  | 4 => .array .int
  | 5 => .array .int
  | 6 => .array .int
  | _ => .array (.array .int)
abbrev wsX40 : List Cond := u_ws RX4 TX4 8
theorem nmX4 : ∀ a, a < 8 → ∀ b, b < 8 → a ≠ b → (TX4 a).2.1 ≠ (TX4 b).2.1 := by decide +kernel
theorem tyX4_ok : ∀ k, k < 8 → parseFieldDescriptor (TX4 k).2.2.1 = some (tyX4 k) := by decide +kernel
abbrev cX4_init : ByteArray := prog_6_method_1_code
def yX4_init : MethodName := ⟨RX4, "<init>", "()V"⟩
abbrev cX4_find : ByteArray := prog_6_method_2_code
def yX4_find : MethodName := ⟨RX4, "find", "()V"⟩
abbrev cX4_settle : ByteArray := prog_6_method_3_code
def yX4_settle : MethodName := ⟨RX4, "settle", "(I)I"⟩
abbrev cX4_jobsLeft : ByteArray := prog_6_method_4_code
def yX4_jobsLeft : MethodName := ⟨RX4, "jobsLeft", "(I)I"⟩
abbrev cX4_complete : ByteArray := prog_6_method_5_code
def yX4_complete : MethodName := ⟨RX4, "complete", "(II)Z"⟩
def RX5 : String := "BottleneckShop$State"
def TX5 : u_T := fun k => match k with
  | 0 => ("BottleneckShop$State", "jobs", "I", false)
  | 1 => ("BottleneckShop$State", "release", "[I", true)
  | 2 => ("BottleneckShop$State", "due", "[I", true)
  | 3 => ("BottleneckShop$State", "steps", "[I", true)
  | 4 => ("BottleneckShop$State", "machine", "[I", true)
  | 5 => ("BottleneckShop$State", "duration", "[I", true)
  | 6 => ("BottleneckShop$State", "queued", "[I", true)
  | _ => ("BottleneckShop$State", "queue", "[I", true)
def tyX5 : Nat → FieldType := fun k => match k with
  | 0 => .int
  | 1 => .array .int
  | 2 => .array .int
  | 3 => .array .int
  | 4 => .array .int
  | 5 => .array .int
  | 6 => .array .int
  | _ => .array .int
abbrev wsX50 : List Cond := u_ws RX5 TX5 8
theorem nmX5 : ∀ a, a < 8 → ∀ b, b < 8 → a ≠ b → (TX5 a).2.1 ≠ (TX5 b).2.1 := by decide +kernel
theorem tyX5_ok : ∀ k, k < 8 → parseFieldDescriptor (TX5 k).2.2.1 = some (tyX5 k) := by decide +kernel
abbrev cX5_init : ByteArray := prog_7_method_1_code
def yX5_init : MethodName := ⟨RX5, "<init>", "()V"⟩
abbrev cX5_become : ByteArray := prog_7_method_2_code
def yX5_become : MethodName := ⟨RX5, "become", "(LBottleneckShop$State;)V"⟩
abbrev cX5_clear : ByteArray := prog_7_method_3_code
def yX5_clear : MethodName := ⟨RX5, "clear", "()V"⟩
abbrev cX5_hasJob : ByteArray := prog_7_method_4_code
def yX5_hasJob : MethodName := ⟨RX5, "hasJob", "(I)Z"⟩
abbrev cX5_hasOperation : ByteArray := prog_7_method_5_code
def yX5_hasOperation : MethodName := ⟨RX5, "hasOperation", "(I)Z"⟩
abbrev cX5_hasPlace : ByteArray := prog_7_method_6_code
def yX5_hasPlace : MethodName := ⟨RX5, "hasPlace", "(II)Z"⟩
abbrev cX5_addJob : ByteArray := prog_7_method_7_code
def yX5_addJob : MethodName := ⟨RX5, "addJob", "(II)I"⟩
abbrev cX5_addOperation : ByteArray := prog_7_method_8_code
def yX5_addOperation : MethodName := ⟨RX5, "addOperation", "(III)I"⟩
abbrev cX5_append : ByteArray := prog_7_method_9_code
def yX5_append : MethodName := ⟨RX5, "append", "(II)V"⟩
abbrev cX5_operationOf : ByteArray := prog_7_method_10_code
def yX5_operationOf : MethodName := ⟨RX5, "operationOf", "(II)I"⟩
abbrev cX5_operationAt : ByteArray := prog_7_method_11_code
def yX5_operationAt : MethodName := ⟨RX5, "operationAt", "(II)I"⟩
abbrev cX5_placeOf : ByteArray := prog_7_method_12_code
def yX5_placeOf : MethodName := ⟨RX5, "placeOf", "(I)I"⟩
abbrev cX5_nextOnMachine : ByteArray := prog_7_method_13_code
def yX5_nextOnMachine : MethodName := ⟨RX5, "nextOnMachine", "(I)I"⟩
abbrev cX5_exchange : ByteArray := prog_7_method_14_code
def yX5_exchange : MethodName := ⟨RX5, "exchange", "(II)V"⟩
abbrev cX5_takeOrder : ByteArray := prog_7_method_15_code
def yX5_takeOrder : MethodName := ⟨RX5, "takeOrder", "(LBottleneckShop$State;I)V"⟩
abbrev cX5_jobsInOrder : ByteArray := prog_7_method_16_code
def yX5_jobsInOrder : MethodName := ⟨RX5, "jobsInOrder", "(I)I"⟩
abbrev cX5_work : ByteArray := prog_7_method_17_code
def yX5_work : MethodName := ⟨RX5, "work", "(I)I"⟩
abbrev cX5_allWork : ByteArray := prog_7_method_18_code
def yX5_allWork : MethodName := ⟨RX5, "allWork", "()I"⟩
abbrev cX5_allSteps : ByteArray := prog_7_method_19_code
def yX5_allSteps : MethodName := ⟨RX5, "allSteps", "()I"⟩
def RX6 : String := "BottleneckShop"
def TX6 : u_T := fun k => match k with
  | 0 => ("BottleneckShop", "now", "LBottleneckShop$State;", true)
  | 1 => ("BottleneckShop", "draft", "LBottleneckShop$State;", true)
  | 2 => ("BottleneckShop", "history", "LBottleneckShop$History;", true)
  | 3 => ("BottleneckShop", "slots", "[LBottleneckShop$State;", true)
  | 4 => ("BottleneckShop", "saved", "[Z", true)
  | 5 => ("BottleneckShop", "pad", "LBottleneckShop$Pad;", true)
  | 6 => ("BottleneckShop", "plan", "LBottleneckShop$Net;", true)
  | 7 => ("BottleneckShop", "criticalPath", "LBottleneckShop$Path;", true)
  | 8 => ("BottleneckShop", "planKnown", "Z", false)
  | 9 => ("BottleneckShop", "planPossible", "Z", false)
  | 10 => ("BottleneckShop", "trial", "LBottleneckShop$Net;", true)
  | 11 => ("BottleneckShop", "leastPlan", "LBottleneckShop$Search;", true)
  | 12 => ("BottleneckShop", "repair", "LBottleneckShop$Search;", true)
  | 13 => ("BottleneckShop", "repairMachine", "I", false)
  | 14 => ("BottleneckShop", "repairFrom", "I", false)
  | _ => ("BottleneckShop", "repairUntil", "I", false)
def tyX6 : Nat → FieldType := fun k => match k with
  | 0 => .object "BottleneckShop$State"
  | 1 => .object "BottleneckShop$State"
  | 2 => .object "BottleneckShop$History"
  | 3 => .array (.object "BottleneckShop$State")
  | 4 => .array .boolean
  | 5 => .object "BottleneckShop$Pad"
  | 6 => .object "BottleneckShop$Net"
  | 7 => .object "BottleneckShop$Path"
  | 8 => .boolean
  | 9 => .boolean
  | 10 => .object "BottleneckShop$Net"
  | 11 => .object "BottleneckShop$Search"
  | 12 => .object "BottleneckShop$Search"
  | 13 => .int
  | 14 => .int
  | _ => .int
abbrev wsX60 : List Cond := u_ws RX6 TX6 16
theorem nmX6 : ∀ a, a < 16 → ∀ b, b < 16 → a ≠ b → (TX6 a).2.1 ≠ (TX6 b).2.1 := by decide +kernel
theorem tyX6_ok : ∀ k, k < 16 → parseFieldDescriptor (TX6 k).2.2.1 = some (tyX6 k) := by decide +kernel
abbrev cX6_init : ByteArray := prog_1_method_1_code
def yX6_init : MethodName := ⟨RX6, "<init>", "()V"⟩
abbrev cX6_job : ByteArray := prog_1_method_2_code
def yX6_job : MethodName := ⟨RX6, "job", "(II)I"⟩
abbrev cX6_operation : ByteArray := prog_1_method_3_code
def yX6_operation : MethodName := ⟨RX6, "operation", "(III)I"⟩
abbrev cX6_change : ByteArray := prog_1_method_4_code
def yX6_change : MethodName := ⟨RX6, "change", "(II)I"⟩
abbrev cX6_swap : ByteArray := prog_1_method_5_code
def yX6_swap : MethodName := ⟨RX6, "swap", "(II)I"⟩
abbrev cX6_takeBest : ByteArray := prog_1_method_6_code
def yX6_takeBest : MethodName := ⟨RX6, "takeBest", "()I"⟩
abbrev cX6_improve : ByteArray := prog_1_method_7_code
def yX6_improve : MethodName := ⟨RX6, "improve", "()I"⟩
abbrev cX6_length : ByteArray := prog_1_method_8_code
def yX6_length : MethodName := ⟨RX6, "length", "()I"⟩
abbrev cX6_about : ByteArray := prog_1_method_9_code
def yX6_about : MethodName := ⟨RX6, "about", "(II)I"⟩
abbrev cX6_path : ByteArray := prog_1_method_10_code
def yX6_path : MethodName := ⟨RX6, "path", "(I)I"⟩
abbrev cX6_order : ByteArray := prog_1_method_11_code
def yX6_order : MethodName := ⟨RX6, "order", "(II)I"⟩
abbrev cX6_ofJob : ByteArray := prog_1_method_12_code
def yX6_ofJob : MethodName := ⟨RX6, "ofJob", "(II)I"⟩
abbrev cX6_count : ByteArray := prog_1_method_13_code
def yX6_count : MethodName := ⟨RX6, "count", "(I)I"⟩
abbrev cX6_bound : ByteArray := prog_1_method_14_code
def yX6_bound : MethodName := ⟨RX6, "bound", "(I)I"⟩
abbrev cX6_forced : ByteArray := prog_1_method_15_code
def yX6_forced : MethodName := ⟨RX6, "forced", "(I)I"⟩
abbrev cX6_isForced : ByteArray := prog_1_method_16_code
def yX6_isForced : MethodName := ⟨RX6, "isForced", "(III)I"⟩
abbrev cX6_best : ByteArray := prog_1_method_17_code
def yX6_best : MethodName := ⟨RX6, "best", "(II)I"⟩
abbrev cX6_breakdown : ByteArray := prog_1_method_18_code
def yX6_breakdown : MethodName := ⟨RX6, "breakdown", "(IIII)I"⟩
abbrev cX6_put : ByteArray := prog_1_method_19_code
def yX6_put : MethodName := ⟨RX6, "put", "(J)I"⟩
abbrev cX6_wipe : ByteArray := prog_1_method_20_code
def yX6_wipe : MethodName := ⟨RX6, "wipe", "()I"⟩
abbrev cX6_fault : ByteArray := prog_1_method_21_code
def yX6_fault : MethodName := ⟨RX6, "fault", "(I)I"⟩
abbrev cX6_loadRoutes : ByteArray := prog_1_method_22_code
def yX6_loadRoutes : MethodName := ⟨RX6, "loadRoutes", "()I"⟩
abbrev cX6_loadPlan : ByteArray := prog_1_method_23_code
def yX6_loadPlan : MethodName := ⟨RX6, "loadPlan", "()I"⟩
abbrev cX6_undo : ByteArray := prog_1_method_24_code
def yX6_undo : MethodName := ⟨RX6, "undo", "()I"⟩
abbrev cX6_save : ByteArray := prog_1_method_25_code
def yX6_save : MethodName := ⟨RX6, "save", "(I)I"⟩
abbrev cX6_restore : ByteArray := prog_1_method_26_code
def yX6_restore : MethodName := ⟨RX6, "restore", "(I)I"⟩
abbrev cX6_within : ByteArray := prog_1_method_27_code
def yX6_within : MethodName := ⟨RX6, "within", "(III)Z"⟩
abbrev cX6_isMachine : ByteArray := prog_1_method_28_code
def yX6_isMachine : MethodName := ⟨RX6, "isMachine", "(I)Z"⟩
abbrev cX6_copyRow : ByteArray := prog_1_method_29_code
def yX6_copyRow : MethodName := ⟨RX6, "copyRow", "([I[I)V"⟩
abbrev cX6_record : ByteArray := prog_1_method_30_code
def yX6_record : MethodName := ⟨RX6, "record", "()V"⟩
abbrev cX6_forgetAnswers : ByteArray := prog_1_method_31_code
def yX6_forgetAnswers : MethodName := ⟨RX6, "forgetAnswers", "()V"⟩
abbrev cX6_knowPlan : ByteArray := prog_1_method_32_code
def yX6_knowPlan : MethodName := ⟨RX6, "knowPlan", "()Z"⟩
abbrev cX6_takeBreakdown : ByteArray := prog_1_method_33_code
def yX6_takeBreakdown : MethodName := ⟨RX6, "takeBreakdown", "(III)V"⟩
abbrev cX6_stays : ByteArray := prog_1_method_34_code
def yX6_stays : MethodName := ⟨RX6, "stays", "(III)Z"⟩
abbrev cX6_lengthBehindNext : ByteArray := prog_1_method_35_code
def yX6_lengthBehindNext : MethodName := ⟨RX6, "lengthBehindNext", "(I)I"⟩
abbrev cX6_timeAbout : ByteArray := prog_1_method_36_code
def yX6_timeAbout : MethodName := ⟨RX6, "timeAbout", "(II)I"⟩
abbrev cX6_numberOfPlan : ByteArray := prog_1_method_37_code
def yX6_numberOfPlan : MethodName := ⟨RX6, "numberOfPlan", "(I)I"⟩
abbrev cX6_endOfJob : ByteArray := prog_1_method_38_code
def yX6_endOfJob : MethodName := ⟨RX6, "endOfJob", "(I)I"⟩
abbrev cX6_lateness : ByteArray := prog_1_method_39_code
def yX6_lateness : MethodName := ⟨RX6, "lateness", "(I)I"⟩
abbrev cX6_sumOfLateness : ByteArray := prog_1_method_40_code
def yX6_sumOfLateness : MethodName := ⟨RX6, "sumOfLateness", "()I"⟩
abbrev cX6_greatestLateness : ByteArray := prog_1_method_41_code
def yX6_greatestLateness : MethodName := ⟨RX6, "greatestLateness", "()I"⟩
abbrev cX6_signsIn : ByteArray := prog_1_method_42_code
def yX6_signsIn : MethodName := ⟨RX6, "signsIn", "(J)I"⟩
def RX7 : String := "BottleneckShopModel"
def TX7 : u_T := fun k => match k with
  | 0 => ("BottleneckShopModel", "at", "[I", true)
  | 1 => ("BottleneckShopModel", "past", "[I", true)
  | 2 => ("BottleneckShopModel", "pastMany", "I", false)
  | 3 => ("BottleneckShopModel", "slots", "[I", true)
  | 4 => ("BottleneckShopModel", "isSaved", "[Z", true)
  | 5 => ("BottleneckShopModel", "pad", "[I", true)
  | 6 => ("BottleneckShopModel", "padMany", "I", false)
  | 7 => ("BottleneckShopModel", "earliest", "[I", true)
  | 8 => ("BottleneckShopModel", "stays", "[Z", true)
  | 9 => ("BottleneckShopModel", "heads", "[I", true)
  | 10 => ("BottleneckShopModel", "tails", "[I", true)
  | 11 => ("BottleneckShopModel", "critical", "[I", true)
  | 12 => ("BottleneckShopModel", "criticalMany", "I", false)
  | 13 => ("BottleneckShopModel", "plans", "[I", true)
  | 14 => ("BottleneckShopModel", "planMany", "[I", true)
  | 15 => ("BottleneckShopModel", "tried", "[I", true)
  | 16 => ("BottleneckShopModel", "found", "[I", true)
  | 17 => ("BottleneckShopModel", "had", "[I", true)
  | 18 => ("BottleneckShopModel", "left", "[I", true)
  | 19 => ("BottleneckShopModel", "forcedAhead", "[I", true)
  | 20 => ("BottleneckShopModel", "spot", "I", false)
  | 21 => ("BottleneckShopModel", "isWrong", "Z", false)
  | 22 => ("BottleneckShopModel", "read", "[I", true)
  | 23 => ("BottleneckShopModel", "readMany", "I", false)
  | _ => ("BottleneckShopModel", "ordered", "I", false)
def tyX7 : Nat → FieldType := fun k => match k with
  | 0 => .array .int
  | 1 => .array .int
  | 2 => .int
  | 3 => .array .int
  | 4 => .array .boolean
  | 5 => .array .int
  | 6 => .int
  | 7 => .array .int
  | 8 => .array .boolean
  | 9 => .array .int
  | 10 => .array .int
  | 11 => .array .int
  | 12 => .int
  | 13 => .array .int
  | 14 => .array .int
  | 15 => .array .int
  | 16 => .array .int
  | 17 => .array .int
  | 18 => .array .int
  | 19 => .array .int
  | 20 => .int
  | 21 => .boolean
  | 22 => .array .int
  | 23 => .int
  | _ => .int
abbrev wsX70 : List Cond := u_ws RX7 TX7 25
theorem nmX7 : ∀ a, a < 25 → ∀ b, b < 25 → a ≠ b → (TX7 a).2.1 ≠ (TX7 b).2.1 := by decide +kernel
theorem tyX7_ok : ∀ k, k < 25 → parseFieldDescriptor (TX7 k).2.2.1 = some (tyX7 k) := by decide +kernel
abbrev cX7_init : ByteArray := prog_9_method_1_code
def yX7_init : MethodName := ⟨RX7, "<init>", "()V"⟩
abbrev cX7_in : ByteArray := prog_9_method_3_code
def yX7_in : MethodName := ⟨RX7, "in", "(III)Z"⟩
abbrev cX7_greater : ByteArray := prog_9_method_4_code
def yX7_greater : MethodName := ⟨RX7, "greater", "(II)I"⟩
abbrev cX7_ofAJob : ByteArray := prog_9_method_5_code
def yX7_ofAJob : MethodName := ⟨RX7, "ofAJob", "(II)I"⟩
abbrev cX7_isJob : ByteArray := prog_9_method_6_code
def yX7_isJob : MethodName := ⟨RX7, "isJob", "(I)Z"⟩
abbrev cX7_isOperation : ByteArray := prog_9_method_7_code
def yX7_isOperation : MethodName := ⟨RX7, "isOperation", "(I)Z"⟩
abbrev cX7_machineOf : ByteArray := prog_9_method_8_code
def yX7_machineOf : MethodName := ⟨RX7, "machineOf", "(I)I"⟩
abbrev cX7_lasts : ByteArray := prog_9_method_9_code
def yX7_lasts : MethodName := ⟨RX7, "lasts", "(I)I"⟩
abbrev cX7_jobAt : ByteArray := prog_9_method_10_code
def yX7_jobAt : MethodName := ⟨RX7, "jobAt", "(II)I"⟩
abbrev cX7_operationOn : ByteArray := prog_9_method_11_code
def yX7_operationOn : MethodName := ⟨RX7, "operationOn", "(II)I"⟩
abbrev cX7_operationAt : ByteArray := prog_9_method_12_code
def yX7_operationAt : MethodName := ⟨RX7, "operationAt", "(II)I"⟩
abbrev cX7_placeOf : ByteArray := prog_9_method_13_code
def yX7_placeOf : MethodName := ⟨RX7, "placeOf", "(I)I"⟩
abbrev cX7_beforeOnRoute : ByteArray := prog_9_method_14_code
def yX7_beforeOnRoute : MethodName := ⟨RX7, "beforeOnRoute", "(I)I"⟩
abbrev cX7_behindOnRoute : ByteArray := prog_9_method_15_code
def yX7_behindOnRoute : MethodName := ⟨RX7, "behindOnRoute", "(I)I"⟩
abbrev cX7_keep : ByteArray := prog_9_method_16_code
def yX7_keep : MethodName := ⟨RX7, "keep", "()V"⟩
abbrev cX7_addJob : ByteArray := prog_9_method_17_code
def yX7_addJob : MethodName := ⟨RX7, "addJob", "(II)V"⟩
abbrev cX7_job : ByteArray := prog_9_method_18_code
def yX7_job : MethodName := ⟨RX7, "job", "(II)I"⟩
abbrev cX7_addOperation : ByteArray := prog_9_method_19_code
def yX7_addOperation : MethodName := ⟨RX7, "addOperation", "(III)I"⟩
abbrev cX7_operation : ByteArray := prog_9_method_20_code
def yX7_operation : MethodName := ⟨RX7, "operation", "(III)I"⟩
abbrev cX7_change : ByteArray := prog_9_method_21_code
def yX7_change : MethodName := ⟨RX7, "change", "(II)I"⟩
abbrev cX7_nothingStays : ByteArray := prog_9_method_22_code
def yX7_nothingStays : MethodName := ⟨RX7, "nothingStays", "()V"⟩
abbrev cX7_endOf : ByteArray := prog_9_method_23_code
def yX7_endOf : MethodName := ⟨RX7, "endOf", "(I)I"⟩
abbrev cX7_raiseHead : ByteArray := prog_9_method_24_code
def yX7_raiseHead : MethodName := ⟨RX7, "raiseHead", "(II)Z"⟩
abbrev cX7_findHeads : ByteArray := prog_9_method_25_code
def yX7_findHeads : MethodName := ⟨RX7, "findHeads", "(I)Z"⟩
abbrev cX7_findTails : ByteArray := prog_9_method_26_code
def yX7_findTails : MethodName := ⟨RX7, "findTails", "()V"⟩
abbrev cX7_withTail : ByteArray := prog_9_method_27_code
def yX7_withTail : MethodName := ⟨RX7, "withTail", "(I)I"⟩
abbrev cX7_find : ByteArray := prog_9_method_28_code
def yX7_find : MethodName := ⟨RX7, "find", "()Z"⟩
abbrev cX7_lastEnd : ByteArray := prog_9_method_29_code
def yX7_lastEnd : MethodName := ⟨RX7, "lastEnd", "()I"⟩
abbrev cX7_throughOf : ByteArray := prog_9_method_30_code
def yX7_throughOf : MethodName := ⟨RX7, "throughOf", "(I)I"⟩
abbrev cX7_length : ByteArray := prog_9_method_31_code
def yX7_length : MethodName := ⟨RX7, "length", "()I"⟩
abbrev cX7_isCritical : ByteArray := prog_9_method_32_code
def yX7_isCritical : MethodName := ⟨RX7, "isCritical", "(I)Z"⟩
abbrev cX7_goesOn : ByteArray := prog_9_method_33_code
def yX7_goesOn : MethodName := ⟨RX7, "goesOn", "(II)Z"⟩
abbrev cX7_findCritical : ByteArray := prog_9_method_34_code
def yX7_findCritical : MethodName := ⟨RX7, "findCritical", "()V"⟩
abbrev cX7_placeOnPath : ByteArray := prog_9_method_35_code
def yX7_placeOnPath : MethodName := ⟨RX7, "placeOnPath", "(I)I"⟩
abbrev cX7_blocks : ByteArray := prog_9_method_36_code
def yX7_blocks : MethodName := ⟨RX7, "blocks", "()I"⟩
abbrev cX7_exchange : ByteArray := prog_9_method_37_code
def yX7_exchange : MethodName := ⟨RX7, "exchange", "(II)V"⟩
abbrev cX7_swap : ByteArray := prog_9_method_38_code
def yX7_swap : MethodName := ⟨RX7, "swap", "(II)I"⟩
abbrev cX7_improve : ByteArray := prog_9_method_39_code
def yX7_improve : MethodName := ⟨RX7, "improve", "()I"⟩
abbrev cX7_layPlans : ByteArray := prog_9_method_40_code
def yX7_layPlans : MethodName := ⟨RX7, "layPlans", "(II)V"⟩
abbrev cX7_nextPlan : ByteArray := prog_9_method_41_code
def yX7_nextPlan : MethodName := ⟨RX7, "nextPlan", "(III)Z"⟩
abbrev cX7_layTried : ByteArray := prog_9_method_42_code
def yX7_layTried : MethodName := ⟨RX7, "layTried", "(I)V"⟩
abbrev cX7_search : ByteArray := prog_9_method_43_code
def yX7_search : MethodName := ⟨RX7, "search", "()I"⟩
abbrev cX7_keepFound : ByteArray := prog_9_method_44_code
def yX7_keepFound : MethodName := ⟨RX7, "keepFound", "()V"⟩
abbrev cX7_putOrders : ByteArray := prog_9_method_45_code
def yX7_putOrders : MethodName := ⟨RX7, "putOrders", "([I)V"⟩
abbrev cX7_keepOrders : ByteArray := prog_9_method_46_code
def yX7_keepOrders : MethodName := ⟨RX7, "keepOrders", "()V"⟩
abbrev cX7_findBest : ByteArray := prog_9_method_47_code
def yX7_findBest : MethodName := ⟨RX7, "findBest", "()I"⟩
abbrev cX7_takeBest : ByteArray := prog_9_method_48_code
def yX7_takeBest : MethodName := ⟨RX7, "takeBest", "()I"⟩
abbrev cX7_foundAt : ByteArray := prog_9_method_49_code
def yX7_foundAt : MethodName := ⟨RX7, "foundAt", "(II)I"⟩
abbrev cX7_best : ByteArray := prog_9_method_50_code
def yX7_best : MethodName := ⟨RX7, "best", "(II)I"⟩
abbrev cX7_layStays : ByteArray := prog_9_method_51_code
def yX7_layStays : MethodName := ⟨RX7, "layStays", "(IIII)I"⟩
abbrev cX7_breakdown : ByteArray := prog_9_method_52_code
def yX7_breakdown : MethodName := ⟨RX7, "breakdown", "(IIII)I"⟩
abbrev cX7_about : ByteArray := prog_9_method_53_code
def yX7_about : MethodName := ⟨RX7, "about", "(II)I"⟩
abbrev cX7_path : ByteArray := prog_9_method_54_code
def yX7_path : MethodName := ⟨RX7, "path", "(I)I"⟩
abbrev cX7_order : ByteArray := prog_9_method_55_code
def yX7_order : MethodName := ⟨RX7, "order", "(II)I"⟩
abbrev cX7_sumOf : ByteArray := prog_9_method_56_code
def yX7_sumOf : MethodName := ⟨RX7, "sumOf", "(I)I"⟩
abbrev cX7_endOfJob : ByteArray := prog_9_method_57_code
def yX7_endOfJob : MethodName := ⟨RX7, "endOfJob", "(I)I"⟩
abbrev cX7_lateness : ByteArray := prog_9_method_58_code
def yX7_lateness : MethodName := ⟨RX7, "lateness", "(I)I"⟩
abbrev cX7_ofJob : ByteArray := prog_9_method_59_code
def yX7_ofJob : MethodName := ⟨RX7, "ofJob", "(II)I"⟩
abbrev cX7_ofPlan : ByteArray := prog_9_method_60_code
def yX7_ofPlan : MethodName := ⟨RX7, "ofPlan", "(I)I"⟩
abbrev cX7_sumOfAll : ByteArray := prog_9_method_61_code
def yX7_sumOfAll : MethodName := ⟨RX7, "sumOfAll", "(Z)I"⟩
abbrev cX7_count : ByteArray := prog_9_method_62_code
def yX7_count : MethodName := ⟨RX7, "count", "(I)I"⟩
abbrev cX7_headAlone : ByteArray := prog_9_method_63_code
def yX7_headAlone : MethodName := ⟨RX7, "headAlone", "(I)I"⟩
abbrev cX7_tailAlone : ByteArray := prog_9_method_64_code
def yX7_tailAlone : MethodName := ⟨RX7, "tailAlone", "(I)I"⟩
abbrev cX7_workedOn : ByteArray := prog_9_method_65_code
def yX7_workedOn : MethodName := ⟨RX7, "workedOn", "(II)I"⟩
abbrev cX7_boundOf : ByteArray := prog_9_method_66_code
def yX7_boundOf : MethodName := ⟨RX7, "boundOf", "(I)I"⟩
abbrev cX7_bound : ByteArray := prog_9_method_67_code
def yX7_bound : MethodName := ⟨RX7, "bound", "(I)I"⟩
abbrev cX7_isSet : ByteArray := prog_9_method_68_code
def yX7_isSet : MethodName := ⟨RX7, "isSet", "(II)Z"⟩
abbrev cX7_headBy : ByteArray := prog_9_method_69_code
def yX7_headBy : MethodName := ⟨RX7, "headBy", "(I)I"⟩
abbrev cX7_tailBy : ByteArray := prog_9_method_70_code
def yX7_tailBy : MethodName := ⟨RX7, "tailBy", "(I)I"⟩
abbrev cX7_findForced : ByteArray := prog_9_method_71_code
def yX7_findForced : MethodName := ⟨RX7, "findForced", "()Z"⟩
abbrev cX7_areTwo : ByteArray := prog_9_method_72_code
def yX7_areTwo : MethodName := ⟨RX7, "areTwo", "(II)Z"⟩
abbrev cX7_force : ByteArray := prog_9_method_73_code
def yX7_force : MethodName := ⟨RX7, "force", "(I)Z"⟩
abbrev cX7_isForcedBoth : ByteArray := prog_9_method_74_code
def yX7_isForcedBoth : MethodName := ⟨RX7, "isForcedBoth", "()Z"⟩
abbrev cX7_forced : ByteArray := prog_9_method_75_code
def yX7_forced : MethodName := ⟨RX7, "forced", "(I)I"⟩
abbrev cX7_isForced : ByteArray := prog_9_method_76_code
def yX7_isForced : MethodName := ⟨RX7, "isForced", "(III)I"⟩
abbrev cX7_put : ByteArray := prog_9_method_77_code
def yX7_put : MethodName := ⟨RX7, "put", "(J)I"⟩
abbrev cX7_wipe : ByteArray := prog_9_method_78_code
def yX7_wipe : MethodName := ⟨RX7, "wipe", "()I"⟩
abbrev cX7_next : ByteArray := prog_9_method_79_code
def yX7_next : MethodName := ⟨RX7, "next", "()I"⟩
abbrev cX7_takeNumber : ByteArray := prog_9_method_80_code
def yX7_takeNumber : MethodName := ⟨RX7, "takeNumber", "(II)I"⟩
abbrev cX7_need : ByteArray := prog_9_method_81_code
def yX7_need : MethodName := ⟨RX7, "need", "(I)V"⟩
abbrev cX7_takeDigit : ByteArray := prog_9_method_82_code
def yX7_takeDigit : MethodName := ⟨RX7, "takeDigit", "(I)I"⟩
abbrev cX7_takeRoute : ByteArray := prog_9_method_83_code
def yX7_takeRoute : MethodName := ⟨RX7, "takeRoute", "()V"⟩
abbrev cX7_takeOrder : ByteArray := prog_9_method_84_code
def yX7_takeOrder : MethodName := ⟨RX7, "takeOrder", "()V"⟩
abbrev cX7_takePart : ByteArray := prog_9_method_85_code
def yX7_takePart : MethodName := ⟨RX7, "takePart", "(I)V"⟩
abbrev cX7_faultOf : ByteArray := prog_9_method_86_code
def yX7_faultOf : MethodName := ⟨RX7, "faultOf", "(I)I"⟩
abbrev cX7_fault : ByteArray := prog_9_method_87_code
def yX7_fault : MethodName := ⟨RX7, "fault", "(I)I"⟩
abbrev cX7_loadRoutes : ByteArray := prog_9_method_88_code
def yX7_loadRoutes : MethodName := ⟨RX7, "loadRoutes", "()I"⟩
abbrev cX7_fitsOrder : ByteArray := prog_9_method_89_code
def yX7_fitsOrder : MethodName := ⟨RX7, "fitsOrder", "(I)Z"⟩
abbrev cX7_loadPlan : ByteArray := prog_9_method_90_code
def yX7_loadPlan : MethodName := ⟨RX7, "loadPlan", "()I"⟩
abbrev cX7_undo : ByteArray := prog_9_method_91_code
def yX7_undo : MethodName := ⟨RX7, "undo", "()I"⟩
abbrev cX7_save : ByteArray := prog_9_method_92_code
def yX7_save : MethodName := ⟨RX7, "save", "(I)I"⟩
abbrev cX7_restore : ByteArray := prog_9_method_93_code
def yX7_restore : MethodName := ⟨RX7, "restore", "(I)I"⟩
def RL : String := "BottleneckShopLaw"
abbrev cL_law : ByteArray := code
end
section
/-! numbers -/
def inR (x : Int) : Prop := -2147483648 ≤ x ∧ x ≤ 2147483647
theorem oI {x : Int} (h : inR x) : (Int32.ofInt x).toInt = x := by
  obtain ⟨h1, h2⟩ := h
  rw [Int32.toInt_ofInt]
  rw [show Int32.size = 4294967296 from rfl, Int.bmod_def]
  omega
theorem oT (x : Int32) : Int32.ofInt x.toInt = x := Int32.ofInt_toInt x
theorem inR_t (x : Int32) : inR x.toInt := by
  have h1 := Int32.le_toInt x
  have h2 := Int32.toInt_lt x
  constructor <;> omega
theorem oAdd (a b : Int) : Int32.ofInt a + Int32.ofInt b = Int32.ofInt (a + b) := (Int32.ofInt_add a b).symm
theorem oSub (a b : Int) : Int32.ofInt a - Int32.ofInt b = Int32.ofInt (a - b) := (Int32.ofInt_sub a b).symm
theorem oMul (a b : Int) : Int32.ofInt a * Int32.ofInt b = Int32.ofInt (a * b) := (Int32.ofInt_mul a b).symm
theorem oNat (n : Nat) : Int32.ofInt (n : Int) = nI n := rfl
theorem oNonneg {x : Int} (h : 0 ≤ x) (h2 : x ≤ 2147483647) : ∃ n : Nat, n < 2 ^ 31 ∧ x = (n : Int) := ⟨x.toNat, by omega, by omega⟩
theorem oClamp {x : Int} (h : 0 ≤ x) (h2 : x ≤ 2147483647) : (Int32.ofInt x).toNatClampNeg = x.toNat := by
  obtain ⟨n, hn, rfl⟩ := oNonneg h h2
  rw [oNat, nI_clamp hn]
  omega
theorem oLt {a b : Int} (ha : inR a) (hb : inR b) : Int32.ofInt a < Int32.ofInt b ↔ a < b := by
  rw [Int32.lt_iff_toInt_lt, oI ha, oI hb]
theorem oLe {a b : Int} (ha : inR a) (hb : inR b) : Int32.ofInt a ≤ Int32.ofInt b ↔ a ≤ b := by
  rw [Int32.le_iff_toInt_le, oI ha, oI hb]
theorem oEq {a b : Int} (ha : inR a) (hb : inR b) : Int32.ofInt a = Int32.ofInt b ↔ a = b := by
  constructor
  · intro h
    have := congrArg Int32.toInt h
    rwa [oI ha, oI hb] at this
  · intro h; rw [h]
theorem oZero : Int32.ofInt 0 = 0 := rfl
theorem inR0 : inR 0 := by constructor <;> omega
theorem oDiv {a b : Int} (ha : 0 ≤ a) (hb : 0 < b) (ra : inR a) (rb : inR b) : Int32.ofInt a / Int32.ofInt b = Int32.ofInt (a / b) := by
  obtain ⟨n, hn, rfl⟩ := oNonneg ha ra.2
  obtain ⟨k, hk, rfl⟩ := oNonneg (by omega : 0 ≤ b) rb.2
  rw [oNat, oNat, pk_div hn (by omega) hk, ← oNat]
  rfl
theorem oRem {a b : Int} (ha : 0 ≤ a) (hb : 0 < b) (ra : inR a) (rb : inR b) : Int32.ofInt a - Int32.ofInt a / Int32.ofInt b * Int32.ofInt b = Int32.ofInt (a % b) := by
  obtain ⟨n, hn, rfl⟩ := oNonneg ha ra.2
  obtain ⟨k, hk, rfl⟩ := oNonneg (by omega : 0 ≤ b) rb.2
  rw [oNat, oNat, pk_rem hn (by omega) hk, ← oNat]
  rfl
theorem vp_inO {x : Int} {n : Nat} (h : 0 ≤ x) (h2 : x < n) (hn : n < 2 ^ 31) : vp_in (Int32.ofInt x) n := by
  obtain ⟨k, hk, rfl⟩ := oNonneg h (by omega)
  exact vp_in_nI (by omega) hn
/-! bit operations on numbers, by the machine's own -/
-- (all of them one chosen function, so that no check of a step looks into them or compares them)
theorem bop_ex : ∃ f : Nat → Int → Int → Int, (∀ a b, f 0 a b = (Int32.ofInt a &&& Int32.ofInt b).toInt) ∧ (∀ a b, f 1 a b = (Int32.ofInt a ||| Int32.ofInt b).toInt) ∧ (∀ a b, f 2 a b = (Int32.ofInt a ^^^ Int32.ofInt b).toInt) ∧ (∀ a b, f 3 a b = (Int32.ofInt a <<< (Int32.ofInt b &&& 31)).toInt) ∧ (∀ a b, f 4 a b = (Int32.ofInt a >>> (Int32.ofInt b &&& 31)).toInt) ∧ (∀ a b, f 5 a b = ((Int32.ofInt a).toUInt32 % 65536).toInt32.toInt) :=
  ⟨fun n a b => match n with | 0 => (Int32.ofInt a &&& Int32.ofInt b).toInt | 1 => (Int32.ofInt a ||| Int32.ofInt b).toInt | 2 => (Int32.ofInt a ^^^ Int32.ofInt b).toInt | 3 => (Int32.ofInt a <<< (Int32.ofInt b &&& 31)).toInt | 4 => (Int32.ofInt a >>> (Int32.ofInt b &&& 31)).toInt | _ => ((Int32.ofInt a).toUInt32 % 65536).toInt32.toInt, fun _ _ => rfl, fun _ _ => rfl, fun _ _ => rfl, fun _ _ => rfl, fun _ _ => rfl, fun _ _ => rfl⟩
noncomputable def bop : Nat → Int → Int → Int := Classical.choose bop_ex
noncomputable def band (a b : Int) : Int := bop 0 a b
theorem band_eq (a b : Int) : band a b = (Int32.ofInt a &&& Int32.ofInt b).toInt := (Classical.choose_spec bop_ex).1 a b
noncomputable def bor (a b : Int) : Int := bop 1 a b
theorem bor_eq (a b : Int) : bor a b = (Int32.ofInt a ||| Int32.ofInt b).toInt := (Classical.choose_spec bop_ex).2.1 a b
noncomputable def bxor (a b : Int) : Int := bop 2 a b
theorem bxor_eq (a b : Int) : bxor a b = (Int32.ofInt a ^^^ Int32.ofInt b).toInt := (Classical.choose_spec bop_ex).2.2.1 a b
noncomputable def bshl (a b : Int) : Int := bop 3 a b
theorem bshl_eq (a b : Int) : bshl a b = (Int32.ofInt a <<< (Int32.ofInt b &&& 31)).toInt := (Classical.choose_spec bop_ex).2.2.2.1 a b
noncomputable def bshr (a b : Int) : Int := bop 4 a b
theorem bshr_eq (a b : Int) : bshr a b = (Int32.ofInt a >>> (Int32.ofInt b &&& 31)).toInt := (Classical.choose_spec bop_ex).2.2.2.2.1 a b
noncomputable def bchr (a : Int) : Int := bop 5 a 0
theorem bchr_eq (a : Int) : bchr a = ((Int32.ofInt a).toUInt32 % 65536).toInt32.toInt := (Classical.choose_spec bop_ex).2.2.2.2.2 a 0
/-! values and memory -/
abbrev AV : Type := Int ⊕ ((Nat × Nat) ⊕ Int64)
abbrev LL : Type := List (Option AV)
abbrev Mem : Type := Nat → Nat → Int → Int
abbrev Tr : Type := List AV → Mem → (Option Int → Mem → Prop) → Prop
def vV (ad : Nat → Nat → Nat) : AV → Value
  | .inl x => .int (Int32.ofInt x)
  | .inr (.inl c) => .ref (ad c.1 c.2)
  | .inr (.inr x) => .long x
def up (σ : Mem) (t i : Nat) (j v : Int) : Mem := fun t' i' j' => if t' = t ∧ i' = i ∧ j' = j then v else σ t' i' j'
/-! the layout: kinds of cells, how many of each, what they are made of -/
def cntL : List Nat := [1,4,1,1,2,10,1,1, 10,10,10,10,10,10,10, 4,4,4,4,4,4,4,4,4,4,4,4, 2,2,2,2,2, 50, 1,1,1,1,1, 1,1,1,1,1,1,1,1,1,1,1,1,1,1,1,1,1,1]
def cnt (t : Nat) : Nat := cntL.getD t 0
def akL : List (Nat × Nat) := [(0,4),(0,4),(0,4),(0,16),(0,16),(0,4),(0,16), (0,4),(0,16),(0,16),(0,16),(0,16),(0,16),(0,16),(0,16),(0,16),(0,4),(0,4),(0,4), (0,16),(0,16),(0,16),(0,16),(4,25), (0,16), (3,6),(3,2),(2,2),(1,80),(0,16), (0,65),(0,390),(0,130),(2,2),(0,80),(0,16),(2,16),(0,16),(0,16),(0,16),(0,384),(0,4),(0,4),(0,16),(0,16),(0,16),(0,16),(0,60)]
def ak (t : Nat) : Option (Nat × Nat) := if t < 8 then none else akL[t - 8]?
def fN (t : Nat) : Nat := [3,15,4,2,8,8,16,25].getD t 0
def fpL : List (List (Option (Nat × Nat))) := [
  [some (33,0), none, none],
  [some (15,0), some (16,0), some (17,0), some (18,0), some (19,0), some (20,0), some (21,0), some (22,0), none, none, some (23,0), none, some (24,0), some (25,0), some (26,0)],
  [some (36,0), none, none, none],
  [some (37,0), none],
  [some (1,2), none, none, some (27,0), some (28,0), some (29,0), some (30,0), some (31,0)],
  [none, some (8,0), some (9,0), some (10,0), some (11,0), some (12,0), some (13,0), some (14,0)],
  [some (5,0), some (5,1), some (0,0), some (34,0), some (35,0), some (2,0), some (1,0), some (3,0), none, none, some (1,1), some (4,0), some (4,1), none, none, none],
  [some (38,0), some (39,0), none, some (40,0), some (41,0), some (42,0), none, some (43,0), some (44,0), some (45,0), some (46,0), some (47,0), none, some (48,0), some (49,0), some (50,0), some (51,0), some (52,0), some (53,0), some (54,0), none, none, some (55,0), none, none]]
def fp (t j : Nat) : Option (Nat × Nat) := ((fpL.getD t []).getD j none)
def el (t i j : Nat) : Nat × Nat := if t = 31 then (32, 25 * i + j) else if t = 33 then (5, 2 + j) else (5, 8 + j)
def isZ (t j : Nat) : Bool := (t == 4 && j == 1) || (t == 6 && (j == 8 || j == 9)) || (t == 7 && j == 21)
abbrev classes : List vw_C := [(RX0, TX0, 3), (RX1, TX1, 15), (RX2, TX2, 4), (RX3, TX3, 2), (RX4, TX4, 8), (RX5, TX5, 8), (RX6, TX6, 16), (RX7, TX7, 25)]
abbrev tysL (cy : Nat → ClassId) : List (ClassId × FieldType) := [(cy 0, .int), (cy 1, .char), (cy 2, .boolean), (cy 3, .object "BottleneckShop$State"), (cy 4, .array .int)]
def enc (cy : Nat → ClassId) (ad : Nat → Nat → Nat) (σ : Mem) (t i : Nat) : va_E :=
  match ak t with
  | none => .inr (t, (List.range (fN t)).map (fun j => match fp t j with | none => .int (Int32.ofInt (σ t i (j : Int))) | some q => .ref (ad q.1 (i + q.2))))
  | some (e, n) => if e < 3 then .inl (cy e, n, .inl (fun j => Int32.ofInt (σ t i (j : Int)))) else .inl (cy e, n, .inr (.inr (.inr (.inr (fun j => some (ad (el t i j).1 (el t i j).2))))))
def cs : List (Nat × Nat) := (List.range 56).flatMap (fun t => (List.range (cnt t)).map (fun i => (t, i)))
def pool (cy : Nat → ClassId) (ad : Nat → Nat → Nat) (σ : Mem) : va_W := cs.map (fun c => (ad c.1 c.2, enc cy ad σ c.1 c.2))
theorem cs_nodup : cs.Nodup := by decide +kernel
theorem cnt_lt {t i : Nat} (h : i < cnt t) : t < 56 := by
  rcases Nat.lt_or_ge t 56 with q | q
  · exact q
  · have : cnt t = 0 := by
      unfold cnt
      rw [List.getD_eq_getElem?_getD, List.getElem?_eq_none (by exact q)]
      rfl
    omega
theorem cs_mem {t i : Nat} (h : i < cnt t) : (t, i) ∈ cs := by
  unfold cs
  exact List.mem_flatMap.mpr ⟨t, List.mem_range.mpr (cnt_lt h), List.mem_map.mpr ⟨i, List.mem_range.mpr h, rfl⟩⟩
theorem cs_cnt {c : Nat × Nat} (h : c ∈ cs) : c.2 < cnt c.1 := by
  unfold cs at h
  obtain ⟨t, -, h2⟩ := List.mem_flatMap.mp h
  obtain ⟨i, h3, rfl⟩ := List.mem_map.mp h2
  exact List.mem_range.mp h3
theorem pool_at (cy : Nat → ClassId) (ad : Nat → Nat → Nat) (σ : Mem) {t i : Nat} (h : i < cnt t) : ∃ q : Nat, cs[q]? = some (t, i) ∧ (pool cy ad σ)[q]? = some (ad t i, enc cy ad σ t i) := by
  obtain ⟨q, hq⟩ := List.getElem?_of_mem (cs_mem h)
  exact ⟨q, hq, by unfold pool; rw [List.getElem?_map, hq]; rfl⟩
theorem pool_set {cy : Nat → ClassId} {ad : Nat → Nat → Nat} {σ σ' : Mem} {t i q : Nat} {e : va_E} (hq : cs[q]? = some (t, i)) (he : enc cy ad σ' t i = e) (ho : ∀ t' i', (t', i') ≠ (t, i) → enc cy ad σ' t' i' = enc cy ad σ t' i') : (pool cy ad σ).set q (ad t i, e) = pool cy ad σ' := by
  have hl := (List.getElem?_eq_some_iff.mp hq).1
  apply List.ext_getElem?
  intro k
  by_cases hk : k = q
  · subst hk
    rw [List.getElem?_set_self (by unfold pool; rw [List.length_map]; exact hl)]
    unfold pool
    rw [List.getElem?_map, hq, ← he]
    rfl
  · rw [List.getElem?_set_ne (Ne.symm hk)]
    unfold pool
    rw [List.getElem?_map, List.getElem?_map]
    cases h : cs[k]? with
    | none => rfl
    | some c =>
      have hc : c ≠ (t, i) := by
        intro hc
        subst hc
        exact hk ((List.getElem?_inj (List.getElem?_eq_some_iff.mp h).1 cs_nodup).mp (h.trans hq.symm))
      show some (ad c.1 c.2, enc cy ad σ c.1 c.2) = some (ad c.1 c.2, enc cy ad σ' c.1 c.2)
      rw [ho c.1 c.2 hc]
theorem up_other {cy : Nat → ClassId} {ad : Nat → Nat → Nat} {σ : Mem} {t i : Nat} {j v : Int} : ∀ t' i', (t', i') ≠ (t, i) → enc cy ad (up σ t i j v) t' i' = enc cy ad σ t' i' := by
  intro t' i' h
  have h2 : up σ t i j v t' i' = σ t' i' := by
    funext j'
    unfold up
    rw [if_neg]
    rintro ⟨rfl, rfl, -⟩
    exact h rfl
  unfold enc
  rw [h2]
theorem up_arr {cy : Nat → ClassId} {ad : Nat → Nat → Nat} {σ : Mem} {t i e n : Nat} {x v : Int} (hk : ak t = some (e, n)) (he : e < 3) (hx : 0 ≤ x) : enc cy ad (up σ t i x v) t i = .inl (cy e, n, .inl (upd (fun j => Int32.ofInt (σ t i (j : Int))) x.toNat (Int32.ofInt v))) := by
  unfold enc
  rw [hk]
  simp only [he, if_true]
  congr 4
  funext k
  unfold up upd
  by_cases h : k = x.toNat
  · subst h
    simp [Int.toNat_of_nonneg hx]
  · have : ¬ (k : Int) = x := by omega
    simp [h, this]
theorem enc_arr {cy : Nat → ClassId} {ad : Nat → Nat → Nat} {σ : Mem} {t i e n : Nat} (hk : ak t = some (e, n)) (he : e < 3) : enc cy ad σ t i = .inl (cy e, n, .inl (fun j => Int32.ofInt (σ t i (j : Int)))) := by
  unfold enc
  rw [hk]
  simp only [he, if_true]
theorem enc_ref {cy : Nat → ClassId} {ad : Nat → Nat → Nat} {σ : Mem} {t i e n : Nat} (hk : ak t = some (e, n)) (he : ¬ e < 3) : enc cy ad σ t i = .inl (cy e, n, .inr (.inr (.inr (.inr (fun j => some (ad (el t i j).1 (el t i j).2)))))) := by
  unfold enc
  rw [hk]
  simp only [he, if_false]
def fV (ad : Nat → Nat → Nat) (σ : Mem) (t i j : Nat) : Value := match fp t j with | none => .int (Int32.ofInt (σ t i (j : Int))) | some q => .ref (ad q.1 (i + q.2))
theorem enc_obj {cy : Nat → ClassId} {ad : Nat → Nat → Nat} {σ : Mem} {t i : Nat} (hk : t < 8) : enc cy ad σ t i = .inr (t, (List.range (fN t)).map (fV ad σ t i)) := by
  unfold enc ak
  rw [if_pos hk]
  rfl
theorem up_obj {cy : Nat → ClassId} {ad : Nat → Nat → Nat} {σ : Mem} {t i j : Nat} {v : Int} (hk : t < 8) (hf : fp t j = none) : enc cy ad (up σ t i (j : Int) v) t i = .inr (t, ((List.range (fN t)).map (fV ad σ t i)).set j (.int (Int32.ofInt v))) := by
  rw [enc_obj hk]
  congr 2
  apply List.ext_getElem?
  intro k
  by_cases h : k = j
  · subst h
    by_cases hl : k < fN t
    · rw [List.getElem?_set_self (by simpa using hl), List.getElem?_map, List.getElem?_range hl]
      simp [fV, hf, up]
    · rw [List.getElem?_eq_none (by simpa using hl), List.getElem?_eq_none (by simpa using hl)]
  · rw [List.getElem?_set_ne (Ne.symm h), List.getElem?_map, List.getElem?_map]
    by_cases hl : k < fN t
    · rw [List.getElem?_range hl]
      have h2 : ¬ (k : Int) = (j : Int) := by omega
      simp [fV, up, h2]
    · rw [List.getElem?_eq_none (by simpa using hl)]
      rfl
end
section
/-! locals -/
def lget : LL → Nat → Option AV
  | [], _ => none
  | a :: _, 0 => a
  | _ :: l, n + 1 => lget l n
def lset : LL → Nat → Option AV → LL
  | [], _, _ => []
  | _ :: l, 0, v => v :: l
  | a :: l, n + 1, v => a :: lset l n v
/-- the place before isn't the first half of a long -/
def okst (L : LL) : Nat → Prop
  | 0 => True
  | n + 1 => match lget L n with
    | some (.inr (.inr _)) => False
    | _ => True
theorem lget_set_same : ∀ {L : LL} {i : Nat} {v w : Option AV}, lget (lset L i v) i = w → i < L.length → v = w
  | [], _, _, _, _, h => absurd h (Nat.not_lt_zero _)
  | _ :: _, 0, _, _, h, _ => h
  | _ :: l, n + 1, _, _, h, h2 => lget_set_same (L := l) h (Nat.lt_of_succ_lt_succ h2)
theorem lget_set_ne : ∀ {L : LL} {i k : Nat} {v : Option AV}, k ≠ i → lget (lset L i v) k = lget L k
  | [], _, _, _, _ => rfl
  | _ :: _, 0, 0, _, h => absurd rfl h
  | _ :: _, 0, _ + 1, _, _ => rfl
  | _ :: _, _ + 1, 0, _, _ => rfl
  | _ :: l, n + 1, k + 1, _, h => lget_set_ne (L := l) (fun e => h (by rw [e]))
theorem lset_len : ∀ (L : LL) (i : Nat) (v : Option AV), (lset L i v).length = L.length
  | [], _, _ => rfl
  | _ :: _, 0, _ => rfl
  | _ :: l, n + 1, v => by simp [lset, lset_len l n v]
theorem lget_lt : ∀ {L : LL} {i : Nat} {v : AV}, lget L i = some v → i < L.length
  | [], _, _, h => by cases h
  | _ :: _, 0, _, _ => Nat.zero_lt_succ _
  | _ :: l, n + 1, _, h => Nat.succ_lt_succ (lget_lt (L := l) h)
/-- a step of the machine, over abstract values: what must hold for it to go on, and where it goes on -/
def cnd : Jvm.ClassFile.Cond → Int → Int → Prop
  | .eq, a, b => a = b
  | .ne, a, b => a ≠ b
  | .lt, a, b => a < b
  | .ge, a, b => b ≤ a
  | .gt, a, b => b < a
  | .le, a, b => a ≤ b
def swt (J : Nat → Prop) (x : Int) : Int → List Nat → Prop
  | _, [] => True
  | lo, t :: r => (x = lo → J t) ∧ swt J x (lo + 1) r
/-- what a method's instructions may look up: fields, constants, calls (how many are popped, what is asked), the script -/
abbrev MI : Type := (Nat → Option (Nat × Nat × Int)) × (Nat → Option Int) × (Nat → Option Int64) × (Nat → Option (Nat × Nat × Tr)) × Bool × Nat × (Int → Int)
def rcv (ci : Nat) : List AV → Prop
  | .inr (.inl c) :: _ => c.1 = ci
  | _ => False
def stp (M : MI) (K : Option Int → Mem → Prop) (N : LL → List AV → Mem → Prop) (J : Nat → LL → List AV → Mem → Prop) (tg : List Nat) (L : LL) (S : List AV) (σ : Mem) : Instr → Prop
  | .aload_n k => match lget L k with
    | some (.inr (.inl c)) => N L (.inr (.inl c) :: S) σ
    | _ => False
  | .aload k => match lget L k with
    | some (.inr (.inl c)) => N L (.inr (.inl c) :: S) σ
    | _ => False
  | .iload_n k => match lget L k with
    | some (.inl x) => N L (.inl x :: S) σ
    | _ => False
  | .iload k => match lget L k with
    | some (.inl x) => N L (.inl x :: S) σ
    | _ => False
  | .lload_n k => match lget L k with
    | some (.inr (.inr x)) => N L (.inr (.inr x) :: S) σ
    | _ => False
  | .lload k => match lget L k with
    | some (.inr (.inr x)) => N L (.inr (.inr x) :: S) σ
    | _ => False
  | .istore_n k => match S with
    | .inl x :: S' => (k : Nat) < L.length ∧ okst L k ∧ N (lset L k (some (.inl x))) S' σ
    | _ => False
  | .istore k => match S with
    | .inl x :: S' => k < L.length ∧ okst L k ∧ N (lset L k (some (.inl x))) S' σ
    | _ => False
  | .lstore_n k => match S with
    | .inr (.inr x) :: S' => (k : Nat) + 1 < L.length ∧ okst L k ∧ N (lset (lset L k (some (.inr (.inr x)))) (k + 1) none) S' σ
    | _ => False
  | .lstore k => match S with
    | .inr (.inr x) :: S' => k + 1 < L.length ∧ okst L k ∧ N (lset (lset L k (some (.inr (.inr x)))) (k + 1) none) S' σ
    | _ => False
  | .iconst i => N L (.inl i :: S) σ
  | .bipush i => N L (.inl i :: S) σ
  | .sipush i => N L (.inl i :: S) σ
  | .ldc k => match M.2.1 k with
    | some x => N L (.inl x :: S) σ
    | none => False
  | .lconst i => N L (.inr (.inr (Int64.ofNat (i : Nat))) :: S) σ
  | .ldc2_w k => match M.2.2.1 k with
    | some x => N L (.inr (.inr x) :: S) σ
    | none => False
  | .dup => match S with
    | .inl x :: S' => N L (.inl x :: .inl x :: S') σ
    | .inr (.inl x) :: S' => N L (.inr (.inl x) :: .inr (.inl x) :: S') σ
    | _ => False
  | .pop => match S with
    | .inl _ :: S' => N L S' σ
    | _ => False
  | .dup2 => match S with
    | .inl x :: .inr (.inl y) :: S' => N L (.inl x :: .inr (.inl y) :: .inl x :: .inr (.inl y) :: S') σ
    | _ => False
  | .iadd => match S with
    | .inl b :: .inl a :: S' => inR (a + b) ∧ N L (.inl (a + b) :: S') σ
    | _ => False
  | .isub => match S with
    | .inl b :: .inl a :: S' => inR (a - b) ∧ N L (.inl (a - b) :: S') σ
    | _ => False
  | .imul => match S with
    | .inl b :: .inl a :: S' => inR (a * b) ∧ N L (.inl (a * b) :: S') σ
    | _ => False
  | .idiv => match S with
    | .inl b :: .inl a :: S' => 0 ≤ a ∧ 0 < b ∧ N L (.inl (a / b) :: S') σ
    | _ => False
  | .irem => match S with
    | .inl b :: .inl a :: S' => 0 ≤ a ∧ 0 < b ∧ N L (.inl (a % b) :: S') σ
    | _ => False
  | .iand => match S with
    | .inl b :: .inl a :: S' => N L (.inl (band a b) :: S') σ
    | _ => False
  | .ior => match S with
    | .inl b :: .inl a :: S' => N L (.inl (bor a b) :: S') σ
    | _ => False
  | .ixor => match S with
    | .inl b :: .inl a :: S' => N L (.inl (bxor a b) :: S') σ
    | _ => False
  | .ishl => match S with
    | .inl b :: .inl a :: S' => N L (.inl (bshl a b) :: S') σ
    | _ => False
  | .ishr => match S with
    | .inl b :: .inl a :: S' => N L (.inl (bshr a b) :: S') σ
    | _ => False
  | .i2c => match S with
    | .inl a :: S' => N L (.inl (bchr a) :: S') σ
    | _ => False
  | .i2l => match S with
    | .inl a :: S' => N L (.inr (.inr (Int32.ofInt a).toInt64) :: S') σ
    | _ => False
  | .l2i => match S with
    | .inr (.inr a) :: S' => N L (.inl a.toInt32.toInt :: S') σ
    | _ => False
  | .land => match S with
    | .inr (.inr b) :: .inr (.inr a) :: S' => N L (.inr (.inr (a &&& b)) :: S') σ
    | _ => False
  | .lor => match S with
    | .inr (.inr b) :: .inr (.inr a) :: S' => N L (.inr (.inr (a ||| b)) :: S') σ
    | _ => False
  | .lshl => match S with
    | .inl b :: .inr (.inr a) :: S' => N L (.inr (.inr (a <<< ((Int32.ofInt b).toInt64 &&& 63))) :: S') σ
    | _ => False
  | .lshr => match S with
    | .inl b :: .inr (.inr a) :: S' => N L (.inr (.inr (a >>> ((Int32.ofInt b).toInt64 &&& 63))) :: S') σ
    | _ => False
  | .lushr => match S with
    | .inl b :: .inr (.inr a) :: S' => N L (.inr (.inr (a.toUInt64 >>> ((Int32.ofInt b).toInt64.toUInt64 &&& Int64.toUInt64 63)).toInt64) :: S') σ
    | _ => False
  | .lcmp => match S with
    | .inr (.inr b) :: .inr (.inr a) :: S' => N L (.inl (lg_cmp a b).toInt :: S') σ
    | _ => False
  | .iinc k n => match lget L k with
    | some (.inl x) => okst L k ∧ inR (x + n) ∧ N (lset L k (some (.inl (x + n)))) S σ
    | _ => False
  | .goto _ => match tg with
    | [t] => J t L S σ
    | _ => False
  | .ifCond c _ => match tg, S with
    | [t], .inl a :: S' => (cnd c a 0 → J t L S' σ) ∧ (¬ cnd c a 0 → N L S' σ)
    | _, _ => False
  | .if_icmp c _ => match tg, S with
    | [t], .inl b :: .inl a :: S' => (cnd c a b → J t L S' σ) ∧ (¬ cnd c a b → N L S' σ)
    | _, _ => False
  | .ifnull _ => match S with
    | .inr (.inl _) :: S' => N L S' σ
    | _ => False
  | .ifnonnull _ => match tg, S with
    | [t], .inr (.inl _) :: S' => J t L S' σ
    | _, _ => False
  | .tableswitch _ lo _ _ => match tg, S with
    | d :: ts, .inl x :: S' => swt (fun t => J t L S' σ) x lo ts ∧ (x < lo ∨ lo + ts.length ≤ x → J d L S' σ)
    | _, _ => False
  | .getfield k => match M.1 k, S with
    | some (t, j, z), .inr (.inl (t', i)) :: S' => t' = t ∧ (match fp t j with
      | none => N L (.inl (σ t i z) :: S') σ
      | some (t2, o) => N L (.inr (.inl (t2, i + o)) :: S') σ)
    | _, _ => False
  | .putfield k => match M.1 k, S with
    | some (t, j, z), .inl x :: .inr (.inl (t', i)) :: S' => t' = t ∧ fp t j = none ∧ (isZ t j = true → x = 0 ∨ x = 1) ∧ N L S' (up σ t i z x)
    | _, _ => False
  | .iaload => match S with
    | .inl x :: .inr (.inl (t, i)) :: S' => match ak t with
      | some (0, n) => (0 ≤ x ∧ x < n) ∧ N L (.inl (σ t i x) :: S') σ
      | some _ => False
      | none => t = 56 ∧ M.2.2.2.2.1 = true ∧ (0 ≤ x ∧ x < M.2.2.2.2.2.1) ∧ N L (.inl (M.2.2.2.2.2.2 x) :: S') σ
    | _ => False
  | .caload => match S with
    | .inl x :: .inr (.inl (t, i)) :: S' => match ak t with
      | some (1, n) => (0 ≤ x ∧ x < n) ∧ N L (.inl (σ t i x) :: S') σ
      | _ => False
    | _ => False
  | .baload => match S with
    | .inl x :: .inr (.inl (t, i)) :: S' => match ak t with
      | some (2, n) => (0 ≤ x ∧ x < n) ∧ N L (.inl (σ t i x) :: S') σ
      | _ => False
    | _ => False
  | .iastore => match S with
    | .inl v :: .inl x :: .inr (.inl (t, i)) :: S' => match ak t with
      | some (0, n) => (0 ≤ x ∧ x < n) ∧ N L S' (up σ t i x v)
      | _ => False
    | _ => False
  | .castore => match S with
    | .inl v :: .inl x :: .inr (.inl (t, i)) :: S' => match ak t with
      | some (1, n) => (0 ≤ x ∧ x < n) ∧ (0 ≤ v ∧ v < 65536) ∧ N L S' (up σ t i x v)
      | _ => False
    | _ => False
  | .bastore => match S with
    | .inl v :: .inl x :: .inr (.inl (t, i)) :: S' => match ak t with
      | some (2, n) => (0 ≤ x ∧ x < n) ∧ (v = 0 ∨ v = 1) ∧ N L S' (up σ t i x v)
      | _ => False
    | _ => False
  | .aaload => match S with
    | .inl x :: .inr (.inl (t, i)) :: S' => match ak t with
      | some (3, n) => (0 ≤ x ∧ x < n) ∧ N L (.inr (.inl (el t i x.toNat)) :: S') σ
      | some (4, n) => (0 ≤ x ∧ x < n) ∧ N L (.inr (.inl (el t i x.toNat)) :: S') σ
      | _ => False
    | _ => False
  | .arraylength => match S with
    | .inr (.inl (t, _)) :: S' => match ak t with
      | some (0, n) => N L (.inl n :: S') σ
      | some _ => False
      | none => t = 56 ∧ M.2.2.2.2.1 = true ∧ N L (.inl M.2.2.2.2.2.1 :: S') σ
    | _ => False
  | .invokevirtual k => match M.2.2.2.1 k with
    | some (n, ci, T) => ci < 8 ∧ n ≤ S.length ∧ S.length ≤ n + 4 ∧ rcv ci (S.take n).reverse ∧ T (S.take n).reverse σ (fun r σ' => N L ((r.map Sum.inl).toList ++ S.drop n) σ')
    | none => False
  | .invokestatic k => match M.2.2.2.1 k with
    | some (n, ci, T) => ci = 99 ∧ n ≤ S.length ∧ S.length ≤ n + 4 ∧ T (S.take n).reverse σ (fun r σ' => N L ((r.map Sum.inl).toList ++ S.drop n) σ')
    | none => False
  | .ireturn => match S with
    | [.inl x] => K (some x) σ
    | _ => False
  | .return_ => match S with
    | [] => K none σ
    | _ => False
  | _ => False
/-- where jumps go, as the decoded offsets say -/
def tgOK (pc : Nat) (tg : List Nat) : Instr → Bool
  | .goto o => tg.length == 1 && (pc : Int) + o == (tg.getD 0 0 : Nat)
  | .ifCond _ o => tg.length == 1 && (pc : Int) + o == (tg.getD 0 0 : Nat)
  | .if_icmp _ o => tg.length == 1 && (pc : Int) + o == (tg.getD 0 0 : Nat)
  | .ifnonnull o => tg.length == 1 && (pc : Int) + o == (tg.getD 0 0 : Nat)
  | .tableswitch d lo hi os => hi + 1 == lo + os.size && ((d :: os.toList).map (fun o => (pc : Int) + o) == (tg : List Nat).map (fun t : Nat => (t : Int)))
  | .iconst i => decide (-128 ≤ i ∧ i < 128)
  | .bipush i => decide (-128 ≤ i ∧ i < 128)
  | .sipush i => decide (-32768 ≤ i ∧ i < 32768)
  | _ => true
abbrev CL : Type := List (Nat × Instr × Nat × List Nat)
def drp (t : Nat) : CL → CL
  | [] => []
  | q :: r => if q.1 = t then q :: r else drp t r
abbrev Cut : Type := Nat → Option (LL → List AV → Mem → Nat → Prop)
def wp (M : MI) (C : CL) (cut : Cut) (bd : Nat → Prop) (K : Option Int → Mem → Prop) : Nat → CL → LL → List AV → Mem → Prop
  | 0, _, _, _, _ => False
  | _ + 1, [], _, _, _ => False
  | n + 1, q :: r, L, S, σ => stp M K
      (fun L' S' σ' => match cut (q.1 + q.2.2.1) with
        | some I => ∃ k, bd k ∧ I L' S' σ' k
        | none => wp M C cut bd K n r L' S' σ')
      (fun t L' S' σ' => match cut t with
        | some I => ∃ k, bd k ∧ I L' S' σ' k
        | none => wp M C cut bd K n (drp t C) L' S' σ')
      q.2.2.2 L S σ q.2.1
end
section
def lw_g : List Cond := lw_tbl.filter goodWord
def isNest : Cond → Bool
  | .methodLinkNest .. => true
  | _ => false
def nw : List Cond := lw_tbl.filter isNest
theorem mg {w : Cond} (i : Nat) (h : lw_tbl[i]? = some w) (hg : goodWord w = true) : w ∈ lw_g := List.mem_filter.mpr ⟨List.mem_of_getElem? h, hg⟩
theorem mn {w : Cond} (i : Nat) (h : lw_tbl[i]? = some w) (hg : isNest w = true) : w ∈ nw := List.mem_filter.mpr ⟨List.mem_of_getElem? h, hg⟩
theorem nw_warm {s U : State} (hW : s.WarmedH U.vm) (h : ∀ w ∈ nw, va_Nw w s) : ∀ w ∈ nw, va_Nw w U := by
  intro w hw
  have h1 := h w hw
  have h2 := (List.mem_filter.mp hw).2
  cases w <;> first | (cases h2; done) | skip
  exact va_Nw.warmM hW h1
theorem nw_same {u U : State} (hv : u.vm = U.vm) (h : ∀ w ∈ nw, va_Nw w u) : ∀ w ∈ nw, va_Nw w U := by
  intro w hw
  have h1 := h w hw
  have h2 := (List.mem_filter.mp hw).2
  cases w <;> first | (cases h2; done) | skip
  exact va_Nw.same rfl hv h1
theorem wsIn0 : ∀ w ∈ u_ws RX0 TX0 3, w ∈ lw_g := fun w hw => List.mem_filter.mpr ⟨(by decide +kernel : ∀ w ∈ u_ws RX0 TX0 3, w ∈ lw_tbl) w hw, List.all_eq_true.mp (by decide +kernel : (u_ws RX0 TX0 3).all goodWord = true) w hw⟩
theorem wsIn1 : ∀ w ∈ u_ws RX1 TX1 15, w ∈ lw_g := fun w hw => List.mem_filter.mpr ⟨(by decide +kernel : ∀ w ∈ u_ws RX1 TX1 15, w ∈ lw_tbl) w hw, List.all_eq_true.mp (by decide +kernel : (u_ws RX1 TX1 15).all goodWord = true) w hw⟩
theorem wsIn2 : ∀ w ∈ u_ws RX2 TX2 4, w ∈ lw_g := fun w hw => List.mem_filter.mpr ⟨(by decide +kernel : ∀ w ∈ u_ws RX2 TX2 4, w ∈ lw_tbl) w hw, List.all_eq_true.mp (by decide +kernel : (u_ws RX2 TX2 4).all goodWord = true) w hw⟩
theorem wsIn3 : ∀ w ∈ u_ws RX3 TX3 2, w ∈ lw_g := fun w hw => List.mem_filter.mpr ⟨(by decide +kernel : ∀ w ∈ u_ws RX3 TX3 2, w ∈ lw_tbl) w hw, List.all_eq_true.mp (by decide +kernel : (u_ws RX3 TX3 2).all goodWord = true) w hw⟩
theorem wsIn4 : ∀ w ∈ u_ws RX4 TX4 8, w ∈ lw_g := fun w hw => List.mem_filter.mpr ⟨(by decide +kernel : ∀ w ∈ u_ws RX4 TX4 8, w ∈ lw_tbl) w hw, List.all_eq_true.mp (by decide +kernel : (u_ws RX4 TX4 8).all goodWord = true) w hw⟩
theorem wsIn5 : ∀ w ∈ u_ws RX5 TX5 8, w ∈ lw_g := fun w hw => List.mem_filter.mpr ⟨(by decide +kernel : ∀ w ∈ u_ws RX5 TX5 8, w ∈ lw_tbl) w hw, List.all_eq_true.mp (by decide +kernel : (u_ws RX5 TX5 8).all goodWord = true) w hw⟩
theorem wsIn6 : ∀ w ∈ u_ws RX6 TX6 16, w ∈ lw_g := fun w hw => List.mem_filter.mpr ⟨(by decide +kernel : ∀ w ∈ u_ws RX6 TX6 16, w ∈ lw_tbl) w hw, List.all_eq_true.mp (by decide +kernel : (u_ws RX6 TX6 16).all goodWord = true) w hw⟩
theorem wsIn7 : ∀ w ∈ u_ws RX7 TX7 25, w ∈ lw_g := fun w hw => List.mem_filter.mpr ⟨(by decide +kernel : ∀ w ∈ u_ws RX7 TX7 25, w ∈ lw_tbl) w hw, List.all_eq_true.mp (by decide +kernel : (u_ws RX7 TX7 25).all goodWord = true) w hw⟩
def clsOK (t : Nat) (q : vw_C) : Prop := q.2.2 = fN t ∧ t < 8 ∧ (∀ w ∈ u_ws q.1 q.2.1 q.2.2, w ∈ lw_g) ∧ (∀ a, a < q.2.2 → ∀ b, b < q.2.2 → a ≠ b → (q.2.1 a).2.1 ≠ (q.2.1 b).2.1) ∧
  ∃ ty : Nat → FieldType, (∀ k, k < q.2.2 → parseFieldDescriptor (q.2.1 k).2.2.1 = some (ty k)) ∧ ∀ j, j < q.2.2 → fp t j = none → (q.2.1 j).2.2.2 = false ∧ ty j = if isZ t j then .boolean else .int
theorem cls_ok : ∀ (t : Nat) (q : vw_C), classes[t]? = some q → clsOK t q
  | 0, q, h => by cases h; exact ⟨rfl, by decide, wsIn0, nmX0, tyX0, tyX0_ok, by decide⟩
  | 1, q, h => by cases h; exact ⟨rfl, by decide, wsIn1, nmX1, tyX1, tyX1_ok, by decide⟩
  | 2, q, h => by cases h; exact ⟨rfl, by decide, wsIn2, nmX2, tyX2, tyX2_ok, by decide⟩
  | 3, q, h => by cases h; exact ⟨rfl, by decide, wsIn3, nmX3, tyX3, tyX3_ok, by decide⟩
  | 4, q, h => by cases h; exact ⟨rfl, by decide, wsIn4, nmX4, tyX4, tyX4_ok, by decide⟩
  | 5, q, h => by cases h; exact ⟨rfl, by decide, wsIn5, nmX5, tyX5, tyX5_ok, by decide⟩
  | 6, q, h => by cases h; exact ⟨rfl, by decide, wsIn6, nmX6, tyX6, tyX6_ok, by decide⟩
  | 7, q, h => by cases h; exact ⟨rfl, by decide, wsIn7, nmX7, tyX7, tyX7_ok, by decide⟩
  | t + 8, q, h => by simp [classes] at h
/-- pointers keep to their counts -/
theorem fp_ok : ∀ t, t < 8 → ∀ i, i < cnt t → ∀ j, j < fN t → ∀ q, fp t j = some q → i + q.2 < cnt q.1 := by decide +kernel
theorem el_key : ∀ t, t < 56 → ∀ i, i < cnt t → ∀ j, j < ((ak t).getD (0, 0)).2 → 3 ≤ ((ak t).getD (0, 0)).1 → (el t i j).2 < cnt (el t i j).1 := by decide +kernel
theorem el_ok {t n k : Nat} (hn : ak t = some (k, n)) (hk : 3 ≤ k) {i : Nat} (hi : i < cnt t) {j : Nat} (hj : j < n) : (el t i j).2 < cnt (el t i j).1 := el_key t (cnt_lt hi) i hi j (by rw [hn]; exact hj) (by rw [hn]; exact hk)
theorem ak_small : ∀ t, t < 56 → ∀ q, ak t = some q → q.2 < 1000 := by decide +kernel
theorem ak_none : ∀ t, t < 56 → ak t = none → t < 8 := by decide +kernel
def Ok (D : va_G) (cy : Nat → ClassId) (ad : Nat → Nat → Nat) (A : Nat → Prop) (H0 H : Heap) (locs : List Loc) (σ : Mem) : Prop := va_P D classes (pool cy ad σ) H ∧ va_S A H0 H locs ∧ ∀ t i j, inR (σ t i j)
def rel (ad : Nat → Nat → Nat) (L : LL) (nL : Nat) (ls : Array Slot) : Prop := L.length = nL ∧ lv_wf ls ∧ ls.size = nL ∧ ∀ i v, lget L i = some v → ls[i]? = some (.val (vV ad v))
def okV : AV → Prop
  | .inl x => inR x
  | .inr (.inl c) => c.2 < cnt c.1 ∨ c = (56, 0)
  | .inr (.inr _) => True
def okL (L : LL) : Prop := ∀ i v, lget L i = some v → okV v
def okS (S : List AV) : Prop := ∀ v ∈ S, okV v
def rV (r : Option Int) : List Value := (r.map (fun x => Value.int (Int32.ofInt x))).toList
section
variable (p : Program) (l : Launch) (e : Env) (R : Room) (s : State) (m : MethodId) (args : Array Value) (below : List Frame) (meth : Method) (c : Code) (cells slots : Nat) (Q : State → Prop) (D : va_G) (cy : Nat → ClassId) (ad : Nat → Nat → Nat) (A : Nat → Prop) (cc : ByteArray) (nL : Nat)
def Gd (pc : Nat) (L : LL) (S : List AV) (σ : Mem) : Prop := ∀ H locs ls, Ok D cy ad A s.heap H locs σ → rel ad L nL ls → okL L → okS S → W p l e R s m args below meth c H locs cells slots Q (F0 m pc ls (S.map (vV ad)))
/-- a call, as an instruction's rule -/
def CR (ins : Instr) (n : Nat) (pre : List AV → Prop) (T : Tr) : Prop := ∀ pc H locs ls σ (as rest : List AV) (K' : Option Int → Mem → Prop), decode cc pc = .ok (ins, 3) → Ok D cy ad A s.heap H locs σ → ls.size = nL → as.length = n → okS as → pre as → T as σ K' → rest.length ≤ 4 →
  (∀ r σ' H' locs', Ok D cy ad A s.heap H' locs' σ' → (∀ x, r = some x → inR x) → K' r σ' → W p l e R s m args below meth c H' locs' cells slots Q (F0 m (pc + 3) ls (rV r ++ rest.map (vV ad)))) →
  W p l e R s m args below meth c H locs cells slots Q (F0 m pc ls ((as.reverse ++ rest).map (vV ad)))
def Cx (own : String) (M : MI) (K : Option Int → Mem → Prop) : Prop :=
  (p.tables.exec = Jvm.exec ∧ c.code = cc ∧ s.vm.findClass own = some m.cls ∧ (∀ w ∈ lw_g, w.before args s = true) ∧ va_K D classes (tysL cy) s ∧ (∀ σ, va_D A (pool cy ad σ))) ∧
  (∀ k t j z, M.1 k = some (t, j, z) → ∃ q, classes[t]? = some q ∧ z = (j : Int) ∧ j < q.2.2 ∧ (Cond.fieldLink own k (q.2.1 j).1 (q.2.1 j).2.1 (q.2.1 j).2.2.1).before args s = true) ∧
  (∀ k x, M.2.1 k = some x → inR x ∧ (Cond.constant own k (Int32.ofInt x)).before args s = true) ∧
  (∀ k x, M.2.2.1 k = some x → (Cond.constantLong own k x).before args s = true) ∧
  (∀ k n ci T, M.2.2.2.1 k = some (n, ci, T) → (ci < 8 → CR p l e R s m args below meth c cells slots Q D cy ad A cc nL (.invokevirtual k) n (rcv ci) T) ∧ (ci = 99 → CR p l e R s m args below meth c cells slots Q D cy ad A cc nL (.invokestatic k) n (fun _ => True) T)) ∧
  (M.2.2.2.2.1 = true → va_X (ad 56 0) M.2.2.2.2.2.1 (fun j => Int32.ofInt (M.2.2.2.2.2.2 (j : Int))) s s.heap ∧ ad 56 0 < s.heap.size ∧ ¬ A (ad 56 0) ∧ M.2.2.2.2.2.1 < 2 ^ 31 ∧ ∀ j, inR (M.2.2.2.2.2.2 j)) ∧
  (∀ x pc H locs ls σ, decode cc pc = .ok (.ireturn, 1) → Ok D cy ad A s.heap H locs σ → inR x → K (some x) σ → W p l e R s m args below meth c H locs cells slots Q (F0 m pc ls [.int (Int32.ofInt x)])) ∧
  (∀ pc H locs ls σ, decode cc pc = .ok (.return_, 1) → Ok D cy ad A s.heap H locs σ → K none σ → W p l e R s m args below meth c H locs cells slots Q (F0 m pc ls []))
end
theorem okS_cons {v : AV} {S : List AV} (h : okS (v :: S)) : okV v ∧ okS S := ⟨h v List.mem_cons_self, fun w hw => h w (List.mem_cons_of_mem _ hw)⟩
theorem okS_push {v : AV} {S : List AV} (h : okV v) (h2 : okS S) : okS (v :: S) := fun w hw => (List.mem_cons.mp hw).elim (fun e => e ▸ h) (h2 w)
theorem rel_at {ad : Nat → Nat → Nat} {L : LL} {nL : Nat} {ls : Array Slot} (h : rel ad L nL ls) {i : Nat} {v : AV} (hv : lget L i = some v) : ls[i]? = some (.val (vV ad v)) := h.2.2.2 i v hv
theorem cat1 {ad : Nat → Nat → Nat} {v : AV} (h : ∀ x, v ≠ .inr (.inr x)) : (vV ad v).category = 1 := by
  rcases v with x | c | x
  · rfl
  · rfl
  · exact absurd rfl (h x)
theorem cat2 {ad : Nat → Nat → Nat} {v : AV} (h : (vV ad v).category = 2) : ∃ x, v = .inr (.inr x) := by
  rcases v with x | c | x
  · cases h
  · cases h
  · exact ⟨x, rfl⟩
def lp (ad : Nat → Nat → Nat) (L : LL) : List (Nat × Value) := (List.range L.length).filterMap (fun i => (lget L i).map (fun v => (i, vV ad v)))
theorem lp_mem {ad : Nat → Nat → Nat} {L : LL} {i : Nat} {v : AV} (h : lget L i = some v) : (i, vV ad v) ∈ lp ad L := List.mem_filterMap.mpr ⟨i, List.mem_range.mpr (lget_lt h), by rw [h]; rfl⟩
theorem rel_has {ad : Nat → Nat → Nat} {L : LL} {nL : Nat} {ls : Array Slot} (h : rel ad L nL ls) : lv_has ls nL (lp ad L) := by
  refine ⟨h.2.2.1, h.2.1, fun q hq => ?_⟩
  obtain ⟨i, -, hi⟩ := List.mem_filterMap.mp hq
  cases hv : lget L i with
  | none => rw [hv] at hi; cases hi
  | some v =>
    rw [hv] at hi
    cases hi
    exact h.2.2.2 i v hv
/-- behind a store of one place -/
theorem rel_store {ad : Nat → Nat → Nat} {L : LL} {nL i : Nat} {ls' : Array Slot} {v : AV} (h1 : L.length = nL) (hi : i < L.length) (hk : okst L i) (hs : lv_has ls' nL ((i, vV ad v) :: (lp ad L).filter (fun q => !(q.1 == i) && !(q.1 + 1 == i && q.2.category == 2)))) : rel ad (lset L i (some v)) nL ls' := by
  obtain ⟨h3, h2, h4⟩ := hs
  refine ⟨by rw [lset_len]; exact h1, h2, h3, fun k w hw => ?_⟩
  by_cases hki : k = i
  · subst hki
    have := lget_set_same hw hi
    cases this
    exact h4 (k, vV ad v) List.mem_cons_self
  · rw [lget_set_ne hki] at hw
    refine h4 (k, vV ad w) (List.mem_cons_of_mem _ (List.mem_filter.mpr ⟨lp_mem hw, ?_⟩))
    simp only [Bool.and_eq_true, Bool.not_eq_true', beq_eq_false_iff_ne, ne_eq, Bool.and_eq_false_iff]
    refine ⟨hki, ?_⟩
    by_cases hk1 : k + 1 = i
    · right
      intro hc2
      obtain ⟨x, rfl⟩ := cat2 hc2
      subst hk1
      simp [okst, hw] at hk
    · left
      exact hk1
theorem rel_store2 {ad : Nat → Nat → Nat} {L : LL} {nL i : Nat} {ls' : Array Slot} {v : AV} (h1 : L.length = nL) (hi : i + 1 < L.length) (hk : okst L i) (hs : lv_has ls' nL ((i, vV ad v) :: (lp ad L).filter (fun q => !(q.1 == i) && (!(q.1 == i + 1) && !(q.1 + 1 == i && q.2.category == 2))))) : rel ad (lset (lset L i (some v)) (i + 1) none) nL ls' := by
  obtain ⟨h3, h2, h4⟩ := hs
  refine ⟨by rw [lset_len, lset_len]; exact h1, h2, h3, fun k w hw => ?_⟩
  by_cases hk1 : k = i + 1
  · subst hk1
    have := lget_set_same hw (by rw [lset_len]; exact hi)
    cases this
  rw [lget_set_ne hk1] at hw
  by_cases hki : k = i
  · subst hki
    have := lget_set_same hw (by omega)
    cases this
    exact h4 (k, vV ad v) List.mem_cons_self
  · rw [lget_set_ne hki] at hw
    refine h4 (k, vV ad w) (List.mem_cons_of_mem _ (List.mem_filter.mpr ⟨lp_mem hw, ?_⟩))
    simp only [Bool.and_eq_true, Bool.not_eq_true', beq_eq_false_iff_ne, ne_eq, Bool.and_eq_false_iff]
    refine ⟨hki, hk1, ?_⟩
    by_cases hk1 : k + 1 = i
    · right
      intro hc2
      obtain ⟨x, rfl⟩ := cat2 hc2
      subst hk1
      simp [okst, hw] at hk
    · left
      exact hk1
theorem okL_set {L : LL} {i : Nat} {v : AV} (h : okL L) (hv : okV v) (hi : i < L.length) : okL (lset L i (some v)) := by
  intro k w hw
  by_cases hki : k = i
  · subst hki
    have := lget_set_same hw hi
    cases this
    exact hv
  · rw [lget_set_ne hki] at hw
    exact h k w hw
theorem okL_set2 {L : LL} {i : Nat} {v : AV} (h : okL L) (hv : okV v) (hi : i + 1 < L.length) : okL (lset (lset L i (some v)) (i + 1) none) := by
  intro k w hw
  by_cases hki : k = i + 1
  · subst hki
    have := lget_set_same hw (by rw [lset_len]; exact hi)
    cases this
  · rw [lget_set_ne hki] at hw
    exact okL_set h hv (by omega) k w hw
end
section
/-- the lengths of the instructions -/
def ilen : Instr → Option Nat
  | .aload_n _ => some 1
  | .aload _ => some 2
  | .iload_n _ => some 1
  | .iload _ => some 2
  | .lload_n _ => some 1
  | .lload _ => some 2
  | .istore_n _ => some 1
  | .istore _ => some 2
  | .lstore_n _ => some 1
  | .lstore _ => some 2
  | .iconst _ => some 1
  | .bipush _ => some 2
  | .sipush _ => some 3
  | .ldc _ => some 2
  | .lconst _ => some 1
  | .ldc2_w _ => some 3
  | .dup => some 1
  | .pop => some 1
  | .dup2 => some 1
  | .iadd => some 1
  | .isub => some 1
  | .imul => some 1
  | .idiv => some 1
  | .irem => some 1
  | .iand => some 1
  | .ior => some 1
  | .ixor => some 1
  | .ishl => some 1
  | .ishr => some 1
  | .i2c => some 1
  | .i2l => some 1
  | .l2i => some 1
  | .land => some 1
  | .lor => some 1
  | .lshl => some 1
  | .lshr => some 1
  | .lushr => some 1
  | .lcmp => some 1
  | .iinc _ _ => some 3
  | .goto _ => some 3
  | .ifCond _ _ => some 3
  | .if_icmp _ _ => some 3
  | .ifnull _ => some 3
  | .ifnonnull _ => some 3
  | .getfield _ => some 3
  | .putfield _ => some 3
  | .iaload => some 1
  | .caload => some 1
  | .baload => some 1
  | .iastore => some 1
  | .castore => some 1
  | .bastore => some 1
  | .aaload => some 1
  | .arraylength => some 1
  | .invokevirtual _ => some 3
  | .invokestatic _ => some 3
  | .ireturn => some 1
  | .return_ => some 1
  | _ => none
theorem bip {i : Int} (h : -128 ≤ i ∧ i < 128) : (Int8.ofInt i).toInt32 = Int32.ofInt i := by
  apply Int32.toInt_inj.mp
  rw [oI (by constructor <;> omega), Int8.toInt_toInt32, Int8.toInt_ofInt]
  rw [show Int8.size = 256 from rfl, Int.bmod_def]
  omega
theorem sip {i : Int} (h : -32768 ≤ i ∧ i < 32768) : (Int16.ofInt i).toInt32 = Int32.ofInt i := by
  apply Int32.toInt_inj.mp
  rw [oI (by constructor <;> omega), Int16.toInt_toInt32, Int16.toInt_ofInt]
  rw [show Int16.size = 65536 from rfl, Int.bmod_def]
  omega
theorem inRb {i : Int} (h : -32768 ≤ i ∧ i < 32768) : inR i := by constructor <;> omega
theorem inRd {a b : Int} (ha : 0 ≤ a) (hb : 0 < b) (ra : inR a) : inR (a / b) := by
  have h1 := Int.ediv_nonneg ha (Int.le_of_lt hb)
  have h2 := Int.ediv_le_self b ha
  have := ra.2
  constructor <;> omega
theorem inRm {a b : Int} (hb : 0 < b) (rb : inR b) : inR (a % b) := by
  have h1 := Int.emod_nonneg a (by omega : b ≠ 0)
  have h2 := Int.emod_lt_of_pos a hb
  have := rb.2
  constructor <;> omega
theorem swt_at {J : Nat → Prop} {x : Int} : ∀ {ts : List Nat} {lo : Int} {n t : Nat}, swt J x lo ts → ts[n]? = some t → x = lo + n → J t
  | [], _, _, _, _, h, _ => by simp at h
  | a :: r, lo, 0, t, h, h2, h3 => by
    rw [List.getElem?_cons_zero] at h2
    cases h2
    exact h.1 (by omega)
  | a :: r, lo, n + 1, t, h, h2, h3 => by
    rw [List.getElem?_cons_succ] at h2
    exact swt_at (lo := lo + 1) h.2 h2 (by omega)
theorem va_aldqA {p : Program} {l : Launch} {e : Env} {R : Room} {s : State} {m : MethodId} {args : Array Value} {below : List Frame} {meth : Method} {c : Code} {H : Heap} {locs : List Loc} {cells slots : Nat} {Q : State → Prop} {cc : ByteArray} {pc : Nat} {ls : Array Slot} {rest : List Value} {D : va_G} {cl : List vw_C} {a : Nat} {tys : List (ClassId × FieldType)} {ws : va_W}
    (hexec : p.tables.exec = Jvm.exec) (hb : c.code = cc) (hK : va_K D cl tys s) (hP : va_P D cl ws H) (q0 t0 : Nat) {cA : ClassId} {n : Nat} {f : Nat → Option Nat} (ha : ws[q0]? = some (a, .inl (cA, n, .inr (.inr (.inr (.inr f)))))) (ht : tys[t0]? = some (cA, .array .int)) {i : Int32} (hin : vp_in i n) (hdg : decode cc pc = .ok (.aaload, 1))
    (kk : W p l e R s m args below meth c H locs cells slots Q (F0 m (pc + 1) ls (va_rf (f i.toNatClampNeg) :: rest))) : W p l e R s m args below meth c H locs cells slots Q (F0 m pc ls (.int i :: .ref a :: rest)) := by
  have hlt : i.toNatClampNeg < n := Nat.not_le.mp fun q => hin (Or.inr q)
  exact W.aald (v := va_rf (f i.toNatClampNeg)) (ty := .array .int) hexec hb (hP q0 _ ha) ((hK.2 t0 _ ht).1 n (fun j => va_rf (f j))) rfl (fun q => by cases q) (by show ¬ (i < 0 ∨ (arrV _ _ _).slots.size ≤ _); rw [arrV_size]; exact hin) (by show (arrV _ _ _).slots[_]? = _; rw [arrV_read _ _ hlt]) rfl rfl hdg kk
theorem narC {v : Int} (h : 0 ≤ v ∧ v < 65536) : vp_nar .char (Int32.ofInt v) = Int32.ofInt v := by
  rw [vp_nar_char, ← lg_i2c_nf]
  exact lg_i2c_word (by rw [oI (by constructor <;> omega)]; exact h.1) (by rw [oI (by constructor <;> omega)]; exact h.2)
theorem narZ {v : Int} (h : v = 0 ∨ v = 1) : vp_nar .boolean (Int32.ofInt v) = Int32.ofInt v := by
  rcases h with rfl | rfl <;> rfl
section
variable {p : Program} {l : Launch} {e : Env} {R : Room} {s : State} {m : MethodId} {args : Array Value} {below : List Frame} {meth : Method} {c : Code} {cells slots : Nat} {Q : State → Prop} {D : va_G} {cy : Nat → ClassId} {ad : Nat → Nat → Nat} {A : Nat → Prop} {cc : ByteArray} {nL : Nat}
/-- the script is the one cell of its kind -/
theorem ref56 {t i : Nat} (h : okV (.inr (.inl (t, i)))) (ht : t = 56) : i = 0 := by
  subst ht
  rcases h with h | h
  · exact absurd (cnt_lt h) (Nat.lt_irrefl 56)
  · exact (Prod.mk.inj h).2
theorem refN {t i : Nat} (h : okV (.inr (.inl (t, i)))) (ht : t ≠ 56) : i < cnt t := by
  rcases h with h | h
  · exact h
  · exact absurd (Prod.mk.inj h).1 ht
theorem ak56 {t : Nat} {q : Nat × Nat} (h : ak t = some q) : t ≠ 56 := by
  rintro rfl
  cases h
theorem ak_sm {t : Nat} {q : Nat × Nat} (h : ak t = some q) {i : Nat} (h2 : okV (.inr (.inl (t, i)))) : q.2 < 2 ^ 31 := by
  have := ak_small t (cnt_lt (refN h2 (ak56 h))) q h
  omega
theorem vp_inA {t i n k : Nat} {x : Int} (h : ak t = some (k, n)) (h2 : okV (.inr (.inl (t, i)))) (hx : 0 ≤ x ∧ x < n) : vp_in (Int32.ofInt x) n := vp_inO hx.1 hx.2 (ak_sm h h2)
theorem clA {t i n k : Nat} {x : Int} (h : ak t = some (k, n)) (h2 : okV (.inr (.inl (t, i)))) (hx : 0 ≤ x ∧ x < n) : (Int32.ofInt x).toNatClampNeg = x.toNat := oClamp hx.1 (by have : n < 2 ^ 31 := ak_sm h h2; omega)
theorem cndI {cd : Jvm.ClassFile.Cond} {a b : Int} (ha : inR a) (hb : inR b) : True := trivial
theorem ok_up {t i q : Nat} {j v : Int} {e : va_E} {H H1 : Heap} {locs locs1 : List Loc} {H0 : Heap} {σ : Mem} (hO : Ok D cy ad A H0 H locs σ) (hv : inR v) (hq : cs[q]? = some (t, i)) (he : enc cy ad (up σ t i j v) t i = e) (hP : va_P D classes ((pool cy ad σ).set q (ad t i, e)) H1) (hS : va_S A H0 H1 locs1) : Ok D cy ad A H0 H1 locs1 (up σ t i j v) := by
  refine ⟨?_, hS, fun t' i' j' => ?_⟩
  · rw [← pool_set hq he up_other]
    exact hP
  · unfold up
    split
    · exact hv
    · exact hO.2.2 _ _ _
set_option maxHeartbeats 8000000 in
theorem stp_sound {own : String} {M : MI} {K : Option Int → Mem → Prop} (X : Cx p l e R s m args below meth c cells slots Q D cy ad A cc nL own M K) {N : LL → List AV → Mem → Prop} {J : Nat → LL → List AV → Mem → Prop} {pc len : Nat} {ins : Instr} {tg : List Nat} {L : LL} {S : List AV} {σ : Mem}
    (hd : decode cc pc = .ok (ins, len)) (hlen : ilen ins = none ∨ ilen ins = some len) (htg : tgOK pc tg ins = true) (h : stp M K N J tg L S σ ins)
    (hN : ∀ L' S' σ', N L' S' σ' → Gd p l e R s m args below meth c cells slots Q D cy ad A nL (pc + len) L' S' σ')
    (hJ : ∀ t L' S' σ', J t L' S' σ' → Gd p l e R s m args below meth c cells slots Q D cy ad A nL t L' S' σ') :
    Gd p l e R s m args below meth c cells slots Q D cy ad A nL pc L S σ := by
  obtain ⟨⟨hx, hb, hown, hts, hK, hDD⟩, hF, hC, hCL, hCR, hSc, hRI, hRV⟩ := X
  intro H locs ls hO hr hL hS
  have hP := hO.1
  have hSS := hO.2.1
  have hD := hDD σ
  cases ins <;> try exact (h : False).elim
  all_goals (rcases hlen with q | q <;> cases q)
  all_goals simp only [stp] at h
  case aload_n k =>
    split at h
    · rename_i _ x0 heq
      exact lv_aload_n hx hb hd rfl (rel_at hr heq) (hN _ _ _ h H locs ls hO hr hL (okS_push (hL _ _ heq) hS))
    · exact h.elim
  case aload k =>
    split at h
    · rename_i _ x0 heq
      exact lv_aload hx hb hd (rel_at hr heq) (hN _ _ _ h H locs ls hO hr hL (okS_push (hL _ _ heq) hS))
    · exact h.elim
  case iload_n k =>
    split at h
    · rename_i _ x0 heq
      exact lv_iload_n hx hb hd rfl (rel_at hr heq) (hN _ _ _ h H locs ls hO hr hL (okS_push (hL _ _ heq) hS))
    · exact h.elim
  case iload k =>
    split at h
    · rename_i _ x0 heq
      exact lv_iload hx hb hd (rel_at hr heq) (hN _ _ _ h H locs ls hO hr hL (okS_push (hL _ _ heq) hS))
    · exact h.elim
  case lload_n k =>
    split at h
    · rename_i _ x0 heq
      exact lv_lload_n hx hb hd rfl (rel_at hr heq) (hN _ _ _ h H locs ls hO hr hL (okS_push (hL _ _ heq) hS))
    · exact h.elim
  case lload k =>
    split at h
    · rename_i _ x0 heq
      exact lv_lload hx hb hd (rel_at hr heq) (hN _ _ _ h H locs ls hO hr hL (okS_push (hL _ _ heq) hS))
    · exact h.elim
  case istore_n k =>
    split at h
    · obtain ⟨h1, h2, h3⟩ := h
      obtain ⟨hv, hS'⟩ := okS_cons hS
      exact lv_istore_n hx hb hd rfl (rel_has hr) (by rw [← hr.1]; exact h1) rfl (fun ls' hl' => hN _ _ _ h3 H locs ls' hO (rel_store hr.1 h1 h2 hl') (okL_set hL hv h1) hS')
    · exact h.elim
  case istore k =>
    split at h
    · obtain ⟨h1, h2, h3⟩ := h
      obtain ⟨hv, hS'⟩ := okS_cons hS
      exact lv_istore hx hb hd (rel_has hr) (by rw [← hr.1]; exact h1) rfl (fun ls' hl' => hN _ _ _ h3 H locs ls' hO (rel_store hr.1 h1 h2 hl') (okL_set hL hv h1) hS')
    · exact h.elim
  case lstore_n k =>
    split at h
    · obtain ⟨h1, h2, h3⟩ := h
      obtain ⟨hv, hS'⟩ := okS_cons hS
      exact lv_lstore_n hx hb hd rfl (rel_has hr) (by rw [← hr.1]; exact h1) rfl (fun ls' hl' => hN _ _ _ h3 H locs ls' hO (rel_store2 hr.1 h1 h2 hl') (okL_set2 hL hv h1) hS')
    · exact h.elim
  case lstore k =>
    split at h
    · obtain ⟨h1, h2, h3⟩ := h
      obtain ⟨hv, hS'⟩ := okS_cons hS
      exact lv_lstore hx hb hd (rel_has hr) (by rw [← hr.1]; exact h1) rfl (fun ls' hl' => hN _ _ _ h3 H locs ls' hO (rel_store2 hr.1 h1 h2 hl') (okL_set2 hL hv h1) hS')
    · exact h.elim
  case iconst i =>
    exact lv_iconst hx hb hd rfl (hN _ _ _ h H locs ls hO hr hL (okS_push (v := .inl i) (inRb (by have := of_decide_eq_true htg; omega)) hS))
  case bipush i =>
    exact lv_bipush hx hb hd (bip (of_decide_eq_true htg)) (hN _ _ _ h H locs ls hO hr hL (okS_push (v := .inl i) (inRb (by have := of_decide_eq_true htg; omega)) hS))
  case sipush i =>
    exact lv_sipush hx hb hd (sip (of_decide_eq_true htg)) (hN _ _ _ h H locs ls hO hr hL (okS_push (v := .inl i) (inRb (by have := of_decide_eq_true htg; omega)) hS))
  case ldc k =>
    split at h
    · rename_i _ x heq
      exact lv_ldc hx hb hown (hC _ _ heq).2 hd (hN _ _ _ h H locs ls hO hr hL (okS_push (v := .inl x) (hC _ _ heq).1 hS))
    · exact h.elim
  case ldc2_w k =>
    split at h
    · rename_i _ x heq
      exact lv_ldc2 hx hb hown (hCL _ _ heq) hd (hN _ _ _ h H locs ls hO hr hL (okS_push (v := .inr (.inr x)) trivial hS))
    · exact h.elim
  case lconst i =>
    exact lv_lconst hx hb hd rfl (hN _ _ _ h H locs ls hO hr hL (okS_push (v := .inr (.inr _)) trivial hS))
  case dup =>
    split at h
    · obtain ⟨hv, hS'⟩ := okS_cons hS
      exact lv_dup hx hb hd rfl (hN _ _ _ h H locs ls hO hr hL (okS_push hv hS))
    · obtain ⟨hv, hS'⟩ := okS_cons hS
      exact lv_dup hx hb hd rfl (hN _ _ _ h H locs ls hO hr hL (okS_push hv hS))
    · exact h.elim
  case pop =>
    split at h
    · obtain ⟨hv, hS'⟩ := okS_cons hS
      exact lv_pop hx hb hd rfl (hN _ _ _ h H locs ls hO hr hL hS')
    · exact h.elim
  case dup2 =>
    split at h
    · obtain ⟨hv, hS'⟩ := okS_cons hS
      obtain ⟨hw, -⟩ := okS_cons hS'
      exact lv_dup2_11 hx hb hd rfl rfl (hN _ _ _ h H locs ls hO hr hL (okS_push hv (okS_push hw hS)))
    · exact h.elim
  case iadd =>
    split at h
    · rename_i b a S'
      obtain ⟨hv, hS'⟩ := okS_cons hS
      obtain ⟨hw, hS''⟩ := okS_cons hS'
      refine lv_iadd hx hb hd ?_
      rw [oAdd]
      exact hN _ _ _ h.2 H locs ls hO hr hL (okS_push (v := .inl (a + b)) h.1 hS'')
    · exact h.elim
  case isub =>
    split at h
    · rename_i b a S'
      obtain ⟨hv, hS'⟩ := okS_cons hS
      obtain ⟨hw, hS''⟩ := okS_cons hS'
      refine lv_isub hx hb hd ?_
      rw [oSub]
      exact hN _ _ _ h.2 H locs ls hO hr hL (okS_push (v := .inl (a - b)) h.1 hS'')
    · exact h.elim
  case imul =>
    split at h
    · rename_i b a S'
      obtain ⟨hv, hS'⟩ := okS_cons hS
      obtain ⟨hw, hS''⟩ := okS_cons hS'
      refine lv_imul hx hb hd ?_
      rw [oMul]
      exact hN _ _ _ h.2 H locs ls hO hr hL (okS_push (v := .inl (a * b)) h.1 hS'')
    · exact h.elim
  case idiv =>
    split at h
    · rename_i b a S'
      obtain ⟨hv, hS'⟩ := okS_cons hS
      obtain ⟨hw, hS''⟩ := okS_cons hS'
      refine lv_idiv hx hb hd (fun q => ?_) ?_
      · have := (oEq hv inR0).mp q
        have := h.2.1
        omega
      rw [oDiv h.1 h.2.1 hw hv]
      exact hN _ _ _ h.2.2 H locs ls hO hr hL (okS_push (v := .inl (a / b)) (inRd h.1 h.2.1 hw) hS'')
    · exact h.elim
  case irem =>
    split at h
    · rename_i b a S'
      obtain ⟨hv, hS'⟩ := okS_cons hS
      obtain ⟨hw, hS''⟩ := okS_cons hS'
      refine lv_irem hx hb hd (fun q => ?_) ?_
      · have := (oEq hv inR0).mp q
        have := h.2.1
        omega
      rw [oRem h.1 h.2.1 hw hv]
      exact hN _ _ _ h.2.2 H locs ls hO hr hL (okS_push (v := .inl (a % b)) (inRm h.2.1 hv) hS'')
    · exact h.elim
  case iand =>
    split at h
    · rename_i b a S'
      obtain ⟨hv, hS'⟩ := okS_cons hS
      obtain ⟨hw, hS''⟩ := okS_cons hS'
      refine lv_iand hx hb hd ?_
      have q := hN _ _ _ h H locs ls hO hr hL (okS_push (v := .inl (band a b)) (show inR (band a b) by rw [band_eq]; exact inR_t _) hS'')
      simp only [List.map_cons, vV, band_eq, oT] at q
      exact q
    · exact h.elim
  case ior =>
    split at h
    · rename_i b a S'
      obtain ⟨hv, hS'⟩ := okS_cons hS
      obtain ⟨hw, hS''⟩ := okS_cons hS'
      refine lv_ior hx hb hd ?_
      have q := hN _ _ _ h H locs ls hO hr hL (okS_push (v := .inl (bor a b)) (show inR (bor a b) by rw [bor_eq]; exact inR_t _) hS'')
      simp only [List.map_cons, vV, bor_eq, oT] at q
      exact q
    · exact h.elim
  case ixor =>
    split at h
    · rename_i b a S'
      obtain ⟨hv, hS'⟩ := okS_cons hS
      obtain ⟨hw, hS''⟩ := okS_cons hS'
      refine lv_ixor hx hb hd ?_
      have q := hN _ _ _ h H locs ls hO hr hL (okS_push (v := .inl (bxor a b)) (show inR (bxor a b) by rw [bxor_eq]; exact inR_t _) hS'')
      simp only [List.map_cons, vV, bxor_eq, oT] at q
      exact q
    · exact h.elim
  case ishl =>
    split at h
    · rename_i b a S'
      obtain ⟨hv, hS'⟩ := okS_cons hS
      obtain ⟨hw, hS''⟩ := okS_cons hS'
      refine lv_ishl hx hb hd ?_
      have q := hN _ _ _ h H locs ls hO hr hL (okS_push (v := .inl (bshl a b)) (show inR (bshl a b) by rw [bshl_eq]; exact inR_t _) hS'')
      simp only [List.map_cons, vV, bshl_eq, oT] at q
      exact q
    · exact h.elim
  case ishr =>
    split at h
    · rename_i b a S'
      obtain ⟨hv, hS'⟩ := okS_cons hS
      obtain ⟨hw, hS''⟩ := okS_cons hS'
      refine lv_ishr hx hb hd ?_
      have q := hN _ _ _ h H locs ls hO hr hL (okS_push (v := .inl (bshr a b)) (show inR (bshr a b) by rw [bshr_eq]; exact inR_t _) hS'')
      simp only [List.map_cons, vV, bshr_eq, oT] at q
      exact q
    · exact h.elim
  case i2c =>
    split at h
    · rename_i a S'
      obtain ⟨hv, hS'⟩ := okS_cons hS
      refine lv_i2c hx hb hd rfl ?_
      have q := hN _ _ _ h H locs ls hO hr hL (okS_push (v := .inl (bchr a)) (show inR (bchr a) by rw [bchr_eq]; exact inR_t _) hS')
      simp only [List.map_cons, vV, bchr_eq, oT] at q
      exact q
    · exact h.elim
  case i2l =>
    split at h
    · obtain ⟨hv, hS'⟩ := okS_cons hS
      exact lv_i2l hx hb hd rfl (hN _ _ _ h H locs ls hO hr hL (okS_push (v := .inr (.inr _)) trivial hS'))
    · exact h.elim
  case l2i =>
    split at h
    · rename_i a S'
      obtain ⟨hv, hS'⟩ := okS_cons hS
      refine lv_l2i hx hb hd rfl ?_
      have q := hN _ _ _ h H locs ls hO hr hL (okS_push (v := .inl a.toInt32.toInt) (inR_t _) hS')
      simp only [List.map_cons, vV, oT] at q
      exact q
    · exact h.elim
  case land =>
    split at h
    · obtain ⟨hv, hS'⟩ := okS_cons hS
      obtain ⟨hw, hS''⟩ := okS_cons hS'
      exact lv_land hx hb hd (hN _ _ _ h H locs ls hO hr hL (okS_push (v := .inr (.inr _)) trivial hS''))
    · exact h.elim
  case lor =>
    split at h
    · obtain ⟨hv, hS'⟩ := okS_cons hS
      obtain ⟨hw, hS''⟩ := okS_cons hS'
      exact lv_lor hx hb hd (hN _ _ _ h H locs ls hO hr hL (okS_push (v := .inr (.inr _)) trivial hS''))
    · exact h.elim
  case lshl =>
    split at h
    · obtain ⟨hv, hS'⟩ := okS_cons hS
      obtain ⟨hw, hS''⟩ := okS_cons hS'
      exact lv_lshl hx hb hd rfl (hN _ _ _ h H locs ls hO hr hL (okS_push (v := .inr (.inr _)) trivial hS''))
    · exact h.elim
  case lshr =>
    split at h
    · obtain ⟨hv, hS'⟩ := okS_cons hS
      obtain ⟨hw, hS''⟩ := okS_cons hS'
      exact lv_lshr hx hb hd rfl (hN _ _ _ h H locs ls hO hr hL (okS_push (v := .inr (.inr _)) trivial hS''))
    · exact h.elim
  case lushr =>
    split at h
    · obtain ⟨hv, hS'⟩ := okS_cons hS
      obtain ⟨hw, hS''⟩ := okS_cons hS'
      exact lv_lushr hx hb hd rfl (hN _ _ _ h H locs ls hO hr hL (okS_push (v := .inr (.inr _)) trivial hS''))
    · exact h.elim
  case lcmp =>
    split at h
    · rename_i b a S'
      obtain ⟨hv, hS'⟩ := okS_cons hS
      obtain ⟨hw, hS''⟩ := okS_cons hS'
      refine W.lcmp hx hb hd ?_
      have q := hN _ _ _ h H locs ls hO hr hL (okS_push (v := .inl (lg_cmp a b).toInt) (inR_t _) hS'')
      simp only [List.map_cons, vV, oT] at q
      exact q
    · exact h.elim
  case iinc k n =>
    split at h
    · rename_i _ x heq
      obtain ⟨h1, h2, h3⟩ := h
      obtain ⟨j, hj⟩ := List.getElem?_of_mem (lp_mem (ad := ad) heq)
      have hlt := lget_lt heq
      exact lv_iinc (v := Int32.ofInt (x + n)) hx hb hd (rel_has hr) hj (oAdd x n) (by rw [← hr.1]; exact hlt) rfl (fun ls' hl' => hN _ _ _ h3 H locs ls' hO (rel_store (v := .inl (x + n)) hr.1 hlt h1 hl') (okL_set (v := .inl (x + n)) hL h2 hlt) hS)
    · exact h.elim
  case goto o =>
    split at h
    · rename_i t
      refine lv_goto (tgt := t) hx hb hd ?_ (hJ _ _ _ _ h H locs ls hO hr hL hS)
      simpa [tgOK] using htg
    · exact h.elim
  case ifCond cd o =>
    split at h
    · rename_i t a S'
      have ht : (pc : Int) + o = (t : Int) := by simpa [tgOK] using htg
      obtain ⟨hv, hS'⟩ := okS_cons hS
      cases cd
      · exact lv_if_eq (tgt := t) hx hb hd ht (fun q => hJ _ _ _ _ (h.1 ((oEq hv inR0).mp q)) H locs ls hO hr hL hS') (fun q => hN _ _ _ (h.2 (fun z => q ((oEq hv inR0).mpr z))) H locs ls hO hr hL hS')
      · exact lv_if_ne (tgt := t) hx hb hd ht (fun q => hJ _ _ _ _ (h.1 (fun z => q ((oEq hv inR0).mpr z))) H locs ls hO hr hL hS') (fun q => hN _ _ _ (h.2 (fun z => z ((oEq hv inR0).mp q))) H locs ls hO hr hL hS')
      · exact lv_if_lt (tgt := t) hx hb hd ht (fun q => hJ _ _ _ _ (h.1 ((oLt hv inR0).mp q)) H locs ls hO hr hL hS') (fun q => hN _ _ _ (h.2 (fun z => q ((oLt hv inR0).mpr z))) H locs ls hO hr hL hS')
      · exact lv_if_ge (tgt := t) hx hb hd ht (fun q => hJ _ _ _ _ (h.1 ((oLe inR0 hv).mp q)) H locs ls hO hr hL hS') (fun q => hN _ _ _ (h.2 (fun z => q ((oLe inR0 hv).mpr z))) H locs ls hO hr hL hS')
      · exact lv_if_gt (tgt := t) hx hb hd ht (fun q => hJ _ _ _ _ (h.1 ((oLt inR0 hv).mp q)) H locs ls hO hr hL hS') (fun q => hN _ _ _ (h.2 (fun z => q ((oLt inR0 hv).mpr z))) H locs ls hO hr hL hS')
      · exact lv_if_le (tgt := t) hx hb hd ht (fun q => hJ _ _ _ _ (h.1 ((oLe hv inR0).mp q)) H locs ls hO hr hL hS') (fun q => hN _ _ _ (h.2 (fun z => q ((oLe hv inR0).mpr z))) H locs ls hO hr hL hS')
    · exact h.elim
  case if_icmp cd o =>
    split at h
    · rename_i t b a S'
      have ht : (pc : Int) + o = (t : Int) := by simpa [tgOK] using htg
      obtain ⟨hv, hS'⟩ := okS_cons hS
      obtain ⟨hw, hS''⟩ := okS_cons hS'
      cases cd
      · exact lv_icmp_eq (tgt := t) hx hb hd ht (fun q => hJ _ _ _ _ (h.1 ((oEq hw hv).mp q)) H locs ls hO hr hL hS'') (fun q => hN _ _ _ (h.2 (fun z => q ((oEq hw hv).mpr z))) H locs ls hO hr hL hS'')
      · exact lv_icmp_ne (tgt := t) hx hb hd ht (fun q => hJ _ _ _ _ (h.1 (fun z => q ((oEq hw hv).mpr z))) H locs ls hO hr hL hS'') (fun q => hN _ _ _ (h.2 (fun z => z ((oEq hw hv).mp q))) H locs ls hO hr hL hS'')
      · exact lv_icmp_lt (tgt := t) hx hb hd ht (fun q => hJ _ _ _ _ (h.1 ((oLt hw hv).mp q)) H locs ls hO hr hL hS'') (fun q => hN _ _ _ (h.2 (fun z => q ((oLt hw hv).mpr z))) H locs ls hO hr hL hS'')
      · exact lv_icmp_ge (tgt := t) hx hb hd ht (fun q => hJ _ _ _ _ (h.1 ((oLe hv hw).mp q)) H locs ls hO hr hL hS'') (fun q => hN _ _ _ (h.2 (fun z => q ((oLe hv hw).mpr z))) H locs ls hO hr hL hS'')
      · exact lv_icmp_gt (tgt := t) hx hb hd ht (fun q => hJ _ _ _ _ (h.1 ((oLt hv hw).mp q)) H locs ls hO hr hL hS'') (fun q => hN _ _ _ (h.2 (fun z => q ((oLt hv hw).mpr z))) H locs ls hO hr hL hS'')
      · exact lv_icmp_le (tgt := t) hx hb hd ht (fun q => hJ _ _ _ _ (h.1 ((oLe hw hv).mp q)) H locs ls hO hr hL hS'') (fun q => hN _ _ _ (h.2 (fun z => q ((oLe hw hv).mpr z))) H locs ls hO hr hL hS'')
    · exact h.elim
  case ifnull o =>
    split at h
    · exact lv_ifnull hx hb hd (hN _ _ _ h H locs ls hO hr hL (okS_cons hS).2)
    · exact h.elim
  case ifnonnull o =>
    split at h
    · rename_i t _ S'
      exact lv_ifnonnull (tgt := t) hx hb hd (by simpa [tgOK] using htg) (hJ _ _ _ _ h H locs ls hO hr hL (okS_cons hS).2)
    · exact h.elim
  case tableswitch df lo hi os =>
    split at h
    · rename_i d ts x S'
      obtain ⟨hv, hS'⟩ := okS_cons hS
      simp only [tgOK, List.map_cons, Bool.and_eq_true, beq_iff_eq, List.cons.injEq] at htg
      obtain ⟨hhi, hd0, hos⟩ := htg
      have hle : os.size = ts.length := by
        have := congrArg List.length hos
        simpa using this
      by_cases hin : x < lo ∨ lo + ts.length ≤ x
      · exact lv_tableOut (tgt := d) hx hb hd (by rw [oI hv]; omega) hd0 (hJ _ _ _ _ (h.2 hin) H locs ls hO hr hL hS')
      · have hn : (x - lo).toNat < ts.length := by omega
        have e1 : ts[(x - lo).toNat]? = some ts[(x - lo).toNat] := List.getElem?_eq_getElem hn
        have e2 : os[(x - lo).toNat]? = some (os[(x - lo).toNat]'(by omega)) := Array.getElem?_eq_getElem (by omega)
        have e3 : (pc : Int) + (os[(x - lo).toNat]'(by omega)) = ((ts[(x - lo).toNat] : Nat) : Int) := by
          have := congrArg (fun l => l[(x - lo).toNat]?) hos
          simp only [List.getElem?_map, e1, Array.getElem?_toList, e2, Option.map_some, Option.some.injEq] at this
          exact this
        exact lv_tableIn (tgt := ts[(x - lo).toNat]) hx hb hd (by rw [oI hv]; omega) (by rw [oI hv]; omega) (by rw [oI hv]; exact e2) e3 (hJ _ _ _ _ (swt_at h.1 e1 (by omega)) H locs ls hO hr hL hS')
    · exact h.elim
  case getfield k =>
    split at h
    · rename_i t j z t' i S' heq
      obtain ⟨rfl, h⟩ := h
      obtain ⟨hv, hS'⟩ := okS_cons hS
      obtain ⟨q, hq, rfl, hj, hlk⟩ := hF _ _ _ _ heq
      obtain ⟨hn, h8, hws, hnm, ty, hty, hfi⟩ := cls_ok _ _ hq
      have hi := refN hv (by omega)
      obtain ⟨q0, hc0, hp0⟩ := pool_at cy ad σ hi
      rw [enc_obj h8] at hp0
      have hjn : j < fN t' := by rw [← hn]; exact hj
      refine va_get (C := q.1) (T := q.2.1) (N := q.2.2) (ci := t') (v := fV ad σ t' i j) hx hb hts hws hown hK hP q0 hp0 hq j hj hlk (fun _ z => z) (by rw [List.getElem?_map, List.getElem?_range hjn]; rfl) hd ?_
      unfold fV
      cases hf : fp t' j with
      | none =>
        rw [hf] at h
        exact hN _ _ _ h H locs ls hO hr hL (okS_push (v := .inl (σ t' i j)) (hO.2.2 _ _ _) hS')
      | some r =>
        rw [hf] at h
        exact hN _ _ _ h H locs ls hO hr hL (okS_push (v := .inr (.inl (r.1, i + r.2))) (Or.inl (fp_ok _ h8 _ hi _ hjn _ hf)) hS')
    · exact h.elim
  case putfield k =>
    split at h
    · rename_i t j z x t' i S' heq
      obtain ⟨rfl, hf, hz, h⟩ := h
      obtain ⟨hx1, hS1⟩ := okS_cons hS
      obtain ⟨hv, hS'⟩ := okS_cons hS1
      obtain ⟨q, hq, rfl, hj, hlk⟩ := hF _ _ _ _ heq
      obtain ⟨hn, h8, hws, hnm, ty, hty, hfi⟩ := cls_ok _ _ hq
      have hi := refN hv (by omega)
      obtain ⟨q0, hc0, hp0⟩ := pool_at cy ad σ hi
      rw [enc_obj h8] at hp0
      have hjn : j < fN t' := by rw [← hn]; exact hj
      have hnf : narrow (ty j) (.int (Int32.ofInt x)) = .int (Int32.ofInt x) ∧ fits (ty j) (.int (Int32.ofInt x)) = true := by
        rw [(hfi j hj hf).2]
        cases hzz : isZ t' j with
        | false => exact ⟨rfl, rfl⟩
        | true => rcases hz hzz with rfl | rfl <;> exact ⟨rfl, rfl⟩
      refine va_put (C := q.1) (T := q.2.1) (N := q.2.2) (ci := t') (v := .int (Int32.ofInt x)) (ty := ty j) hx hb hts hws ty hty hnm hown hK hP hD hSS q0 hp0 hq j hj hlk (fun _ z => z) (hfi j hj hf).1 (hty j hj) hnf.1 hnf.2 (by simpa using hjn) hd (fun H1 locs1 hP1 hD1 hS2 => ?_)
      exact hN _ _ _ h H1 locs1 ls (ok_up hO hx1 hc0 (up_obj h8 hf) hP1 hS2) hr hL hS'
    · exact h.elim
  case iaload =>
    split at h
    · rename_i x t i S'
      obtain ⟨hx1, hS1⟩ := okS_cons hS
      obtain ⟨hv, hS'⟩ := okS_cons hS1
      split at h
      · rename_i n hk
        obtain ⟨h1, h2⟩ := h
        obtain ⟨q0, hc0, hp0⟩ := pool_at cy ad σ (refN hv (ak56 hk))
        rw [enc_arr hk (by omega)] at hp0
        have q := va_iald (ls := ls) (rest := S'.map (vV ad)) hx hb hK hP q0 0 hp0 rfl (vp_inA hk hv h1) hd (Q := Q) (cells := cells) (slots := slots) (locs := locs) (l := l) (e := e) (R := R) (below := below) (meth := meth) (m := m) (args := args)
        rw [clA hk hv h1, Int.toNat_of_nonneg h1.1] at q
        exact q (hN _ _ _ h2 H locs ls hO hr hL (okS_push (v := .inl (σ t i x)) (hO.2.2 _ _ _) hS'))
      · exact h.elim
      · obtain ⟨rfl, hz, h1, h2⟩ := h
        obtain ⟨hX, hbl, hbA, hsm, hxr⟩ := hSc hz
        have hi0 := ref56 hv rfl
        subst hi0
        have q := va_sld (ls := ls) (rest := S'.map (vV ad)) hx hb hX hbl hbA hSS (vp_inO h1.1 h1.2 hsm) hd (Q := Q) (cells := cells) (slots := slots) (l := l) (e := e) (R := R) (below := below) (meth := meth) (m := m) (args := args)
        rw [oClamp h1.1 (by omega), Int.toNat_of_nonneg h1.1] at q
        exact q (hN _ _ _ h2 H locs ls hO hr hL (okS_push (v := .inl (M.2.2.2.2.2.2 x)) (hxr _) hS'))
    · exact h.elim
  case caload =>
    split at h
    · rename_i x t i S'
      obtain ⟨hx1, hS1⟩ := okS_cons hS
      obtain ⟨hv, hS'⟩ := okS_cons hS1
      split at h
      · rename_i n hk
        obtain ⟨h1, h2⟩ := h
        obtain ⟨q0, hc0, hp0⟩ := pool_at cy ad σ (refN hv (ak56 hk))
        rw [enc_arr hk (by omega)] at hp0
        have q := va_cald (ls := ls) (rest := S'.map (vV ad)) hx hb hK hP q0 1 hp0 rfl (vp_inA hk hv h1) hd (Q := Q) (cells := cells) (slots := slots) (locs := locs) (l := l) (e := e) (R := R) (below := below) (meth := meth) (m := m) (args := args)
        rw [clA hk hv h1, Int.toNat_of_nonneg h1.1] at q
        exact q (hN _ _ _ h2 H locs ls hO hr hL (okS_push (v := .inl (σ t i x)) (hO.2.2 _ _ _) hS'))
      · exact h.elim
    · exact h.elim
  case baload =>
    split at h
    · rename_i x t i S'
      obtain ⟨hx1, hS1⟩ := okS_cons hS
      obtain ⟨hv, hS'⟩ := okS_cons hS1
      split at h
      · rename_i n hk
        obtain ⟨h1, h2⟩ := h
        obtain ⟨q0, hc0, hp0⟩ := pool_at cy ad σ (refN hv (ak56 hk))
        rw [enc_arr hk (by omega)] at hp0
        have q := va_zald (ls := ls) (rest := S'.map (vV ad)) hx hb hK hP q0 2 hp0 rfl (vp_inA hk hv h1) hd (Q := Q) (cells := cells) (slots := slots) (locs := locs) (l := l) (e := e) (R := R) (below := below) (meth := meth) (m := m) (args := args)
        rw [clA hk hv h1, Int.toNat_of_nonneg h1.1] at q
        exact q (hN _ _ _ h2 H locs ls hO hr hL (okS_push (v := .inl (σ t i x)) (hO.2.2 _ _ _) hS'))
      · exact h.elim
    · exact h.elim
  case iastore =>
    split at h
    · rename_i v x t i S'
      obtain ⟨hvv, hS0⟩ := okS_cons hS
      obtain ⟨hx1, hS1⟩ := okS_cons hS0
      obtain ⟨hv, hS'⟩ := okS_cons hS1
      split at h
      · rename_i n hk
        obtain ⟨h1, h2⟩ := h
        obtain ⟨q0, hc0, hp0⟩ := pool_at cy ad σ (refN hv (ak56 hk))
        rw [enc_arr hk (by omega)] at hp0
        refine va_iast hx hb hK hP hD hSS q0 0 hp0 rfl (vp_inA hk hv h1) hd (fun H1 locs1 hP1 hD1 hS2 => ?_)
        rw [clA hk hv h1] at hP1
        exact hN _ _ _ h2 H1 locs1 ls (ok_up hO hvv hc0 (up_arr hk (by omega) h1.1) hP1 hS2) hr hL hS'
      · exact h.elim
    · exact h.elim
  case castore =>
    split at h
    · rename_i v x t i S'
      obtain ⟨hvv, hS0⟩ := okS_cons hS
      obtain ⟨hx1, hS1⟩ := okS_cons hS0
      obtain ⟨hv, hS'⟩ := okS_cons hS1
      split at h
      · rename_i n hk
        obtain ⟨h1, hz, h2⟩ := h
        obtain ⟨q0, hc0, hp0⟩ := pool_at cy ad σ (refN hv (ak56 hk))
        rw [enc_arr hk (by omega)] at hp0
        refine va_cast hx hb hK hP hD hSS q0 1 hp0 rfl (vp_inA hk hv h1) hd (fun H1 locs1 hP1 hD1 hS2 => ?_)
        rw [clA hk hv h1] at hP1
        rw [narC hz] at hP1
        exact hN _ _ _ h2 H1 locs1 ls (ok_up hO hvv hc0 (up_arr hk (by omega) h1.1) hP1 hS2) hr hL hS'
      · exact h.elim
    · exact h.elim
  case bastore =>
    split at h
    · rename_i v x t i S'
      obtain ⟨hvv, hS0⟩ := okS_cons hS
      obtain ⟨hx1, hS1⟩ := okS_cons hS0
      obtain ⟨hv, hS'⟩ := okS_cons hS1
      split at h
      · rename_i n hk
        obtain ⟨h1, hz, h2⟩ := h
        obtain ⟨q0, hc0, hp0⟩ := pool_at cy ad σ (refN hv (ak56 hk))
        rw [enc_arr hk (by omega)] at hp0
        refine va_zast hx hb hK hP hD hSS q0 2 hp0 rfl (vp_inA hk hv h1) hd (fun H1 locs1 hP1 hD1 hS2 => ?_)
        rw [clA hk hv h1] at hP1
        rw [narZ hz] at hP1
        exact hN _ _ _ h2 H1 locs1 ls (ok_up hO hvv hc0 (up_arr hk (by omega) h1.1) hP1 hS2) hr hL hS'
      · exact h.elim
    · exact h.elim
  case aaload =>
    split at h
    · rename_i x t i S'
      obtain ⟨hx1, hS1⟩ := okS_cons hS
      obtain ⟨hv, hS'⟩ := okS_cons hS1
      split at h
      · rename_i n hk
        obtain ⟨h1, h2⟩ := h
        have hi := refN hv (ak56 hk)
        obtain ⟨q0, hc0, hp0⟩ := pool_at cy ad σ hi
        rw [enc_ref hk (by omega)] at hp0
        have q := va_aldq (C := "BottleneckShop$State") (ls := ls) (rest := S'.map (vV ad)) hx hb hK hP q0 3 hp0 rfl (vp_inA hk hv h1) hd (Q := Q) (cells := cells) (slots := slots) (locs := locs) (l := l) (e := e) (R := R) (below := below) (meth := meth) (m := m) (args := args)
        rw [clA hk hv h1] at q
        exact q (hN _ _ _ h2 H locs ls hO hr hL (okS_push (v := .inr (.inl (el t i x.toNat))) (Or.inl (el_ok hk (by omega) hi (by omega))) hS'))
      · rename_i n hk
        obtain ⟨h1, h2⟩ := h
        have hi := refN hv (ak56 hk)
        obtain ⟨q0, hc0, hp0⟩ := pool_at cy ad σ hi
        rw [enc_ref hk (by omega)] at hp0
        have q := va_aldqA (ls := ls) (rest := S'.map (vV ad)) hx hb hK hP q0 4 hp0 rfl (vp_inA hk hv h1) hd (Q := Q) (cells := cells) (slots := slots) (locs := locs) (l := l) (e := e) (R := R) (below := below) (meth := meth) (m := m) (args := args)
        rw [clA hk hv h1] at q
        exact q (hN _ _ _ h2 H locs ls hO hr hL (okS_push (v := .inr (.inl (el t i x.toNat))) (Or.inl (el_ok hk (by omega) hi (by omega))) hS'))
      · exact h.elim
    · exact h.elim
  case arraylength =>
    split at h
    · rename_i t i S'
      obtain ⟨hv, hS'⟩ := okS_cons hS
      split at h
      · rename_i n hk
        have hn := ak_sm hk hv
        obtain ⟨q0, hc0, hp0⟩ := pool_at cy ad σ (refN hv (ak56 hk))
        rw [enc_arr hk (by omega)] at hp0
        exact va_alen hx hb hK hP q0 0 hp0 rfl rfl hd (hN _ _ _ h H locs ls hO hr hL (okS_push (v := .inl (n : Int)) (by show inR _; constructor <;> omega) hS'))
      · exact h.elim
      · obtain ⟨rfl, hz, h2⟩ := h
        obtain ⟨hX, hbl, hbA, hsm, hxr⟩ := hSc hz
        have hi0 := ref56 hv rfl
        subst hi0
        exact va_slen hx hb hX hbl hbA hSS hd (hN _ _ _ h2 H locs ls hO hr hL (okS_push (v := .inl (M.2.2.2.2.2.1 : Int)) (by show inR _; constructor <;> omega) hS'))
    · exact h.elim
  case invokevirtual k =>
    split at h
    · rename_i _ n ci T heq
      obtain ⟨hci, h1, h2, h0, h3⟩ := h
      have e0 : S = (S.take n).reverse.reverse ++ S.drop n := by rw [List.reverse_reverse, List.take_append_drop]
      have hT : okS (S.take n).reverse := fun v hv => hS v (List.mem_of_mem_take (List.mem_reverse.mp hv))
      have hR' : okS (S.drop n) := fun v hv => hS v (List.mem_of_mem_drop hv)
      rw [show S.map (vV ad) = ((S.take n).reverse.reverse ++ S.drop n).map (vV ad) by rw [← e0]]
      refine (hCR _ _ _ _ heq).1 hci pc H locs ls σ (S.take n).reverse (S.drop n) _ hd hO hr.2.2.1 (by rw [List.length_reverse, List.length_take]; omega) hT h0 h3 (by rw [List.length_drop]; omega) (fun r σ' H' locs' hO' hr' hk => ?_)
      have q := hN _ _ _ hk H' locs' ls hO' hr hL (by
        intro v hv
        rcases List.mem_append.mp hv with hv | hv
        · cases r with
          | none => cases hv
          | some x =>
            rw [List.mem_singleton.mp hv]
            exact hr' x rfl
        · exact hR' v hv)
      cases r <;> exact q
    · exact h.elim
  case invokestatic k =>
    split at h
    · rename_i _ n ci T heq
      obtain ⟨hci, h1, h2, h3⟩ := h
      have h0 : True := trivial
      have e0 : S = (S.take n).reverse.reverse ++ S.drop n := by rw [List.reverse_reverse, List.take_append_drop]
      have hT : okS (S.take n).reverse := fun v hv => hS v (List.mem_of_mem_take (List.mem_reverse.mp hv))
      have hR' : okS (S.drop n) := fun v hv => hS v (List.mem_of_mem_drop hv)
      rw [show S.map (vV ad) = ((S.take n).reverse.reverse ++ S.drop n).map (vV ad) by rw [← e0]]
      refine (hCR _ _ _ _ heq).2 hci pc H locs ls σ (S.take n).reverse (S.drop n) _ hd hO hr.2.2.1 (by rw [List.length_reverse, List.length_take]; omega) hT h0 h3 (by rw [List.length_drop]; omega) (fun r σ' H' locs' hO' hr' hk => ?_)
      have q := hN _ _ _ hk H' locs' ls hO' hr hL (by
        intro v hv
        rcases List.mem_append.mp hv with hv | hv
        · cases r with
          | none => cases hv
          | some x =>
            rw [List.mem_singleton.mp hv]
            exact hr' x rfl
        · exact hR' v hv)
      cases r <;> exact q
    · exact h.elim
  case ireturn =>
    split at h
    · rename_i x
      exact hRI x pc H locs ls σ hd hO (okS_cons hS).1 h
    · exact h.elim
  case return_ =>
    split at h
    · exact hRV pc H locs ls σ hd hO h
    · exact h.elim
end
end
section
/-- a method's list of instructions, as the decoder says; each stands behind the one before it -/
abbrev chk (cc : ByteArray) (q : Nat × Instr × Nat × List Nat) : Prop := decode cc q.1 = .ok (q.2.1, q.2.2.1) ∧ (ilen q.2.1 = none ∨ ilen q.2.1 = some q.2.2.1) ∧ tgOK q.1 q.2.2.2 q.2.1 = true
def lnk : CL → Bool
  | q :: q2 :: r => q.1 + q.2.2.1 == q2.1 && lnk (q2 :: r)
  | _ => true
theorem lnk_tail {q : Nat × Instr × Nat × List Nat} {r : CL} (h : lnk (q :: r) = true) : lnk r = true := by
  cases r with
  | nil => rfl
  | cons q2 r =>
    simp only [lnk, Bool.and_eq_true] at h
    exact h.2
theorem lnk_next {q q2 : Nat × Instr × Nat × List Nat} {r : CL} (h : lnk (q :: q2 :: r) = true) : q2.1 = q.1 + q.2.2.1 := by
  simp only [lnk, Bool.and_eq_true, beq_iff_eq] at h
  exact h.1.symm
theorem drp_sub : ∀ {C : CL} {t : Nat} {q : Nat × Instr × Nat × List Nat}, q ∈ drp t C → q ∈ C
  | [], _, _, h => h
  | a :: r, t, q, h => by
    unfold drp at h
    split at h
    · exact h
    · exact List.mem_cons_of_mem _ (drp_sub h)
theorem drp_lnk : ∀ {C : CL} {t : Nat}, lnk C = true → lnk (drp t C) = true
  | [], _, h => h
  | a :: r, t, h => by
    unfold drp
    split
    · exact h
    · exact drp_lnk (lnk_tail h)
theorem drp_head : ∀ {C : CL} {t : Nat} {q : Nat × Instr × Nat × List Nat} {r : CL}, drp t C = q :: r → q.1 = t
  | [], _, _, _, h => by cases h
  | a :: r, t, q, r', h => by
    unfold drp at h
    split at h
    · rename_i hq
      cases h
      exact hq
    · exact drp_head h
section
variable {p : Program} {l : Launch} {e : Env} {R : Room} {s : State} {m : MethodId} {args : Array Value} {below : List Frame} {meth : Method} {c : Code} {cells slots : Nat} {Q : State → Prop} {D : va_G} {cy : Nat → ClassId} {ad : Nat → Nat → Nat} {A : Nat → Prop} {cc : ByteArray} {nL : Nat}
theorem wp_sound {own : String} {M : MI} {K : Option Int → Mem → Prop} (X : Cx p l e R s m args below meth c cells slots Q D cy ad A cc nL own M K) {C : CL} {cut : Cut} {bd : Nat → Prop} (hC : ∀ q ∈ C, chk cc q) (hl : lnk C = true)
    (hI : ∀ pc I L S σ k, cut pc = some I → bd k → I L S σ k → Gd p l e R s m args below meth c cells slots Q D cy ad A nL pc L S σ) :
    ∀ (n : Nat) (r : CL) (pc : Nat) (L : LL) (S : List AV) (σ : Mem), (∀ q ∈ r, q ∈ C) → lnk r = true → (∀ q r', r = q :: r' → q.1 = pc) → wp M C cut bd K n r L S σ → Gd p l e R s m args below meth c cells slots Q D cy ad A nL pc L S σ := by
  intro n
  induction n with
  | zero => intro r pc L S σ _ _ _ h; exact h.elim
  | succ n ih =>
    intro r pc L S σ hr hlr hpc h
    cases r with
    | nil => exact h.elim
    | cons q r =>
      obtain rfl := hpc q r rfl
      obtain ⟨h1, h2, h3⟩ := hC q (hr q List.mem_cons_self)
      refine stp_sound X h1 h2 h3 h ?_ ?_
      · intro L' S' σ' hN
        cases hcut : cut (q.1 + q.2.2.1) with
        | some I =>
          rw [hcut] at hN
          obtain ⟨k, hk, hi⟩ := hN
          exact hI _ I _ _ _ k hcut hk hi
        | none =>
          rw [hcut] at hN
          refine ih r _ L' S' σ' (fun z hz => hr z (List.mem_cons_of_mem _ hz)) (lnk_tail hlr) ?_ hN
          intro z r' hz
          subst hz
          exact lnk_next hlr
      · intro t L' S' σ' hJ
        cases hcut : cut t with
        | some I =>
          rw [hcut] at hJ
          obtain ⟨k, hk, hi⟩ := hJ
          exact hI _ I _ _ _ k hcut hk hi
        | none =>
          rw [hcut] at hJ
          exact ih (drp t C) t L' S' σ' (fun z hz => drp_sub hz) (drp_lnk hl) (fun z r' hz => drp_head hz) hJ
/-- Floyd: what holds at the cuts is kept, and its number falls -/
theorem floyd {own : String} {M : MI} {K : Option Int → Mem → Prop} (X : Cx p l e R s m args below meth c cells slots Q D cy ad A cc nL own M K) {C : CL} {cut : Cut} {f : Nat} (hC : ∀ q ∈ C, chk cc q) (hl : lnk C = true)
    (hS : ∀ pc I L S σ k, cut pc = some I → I L S σ k → wp M C cut (fun k' => k' < k) K f (drp pc C) L S σ) :
    ∀ (pc : Nat) (L : LL) (S : List AV) (σ : Mem), wp M C cut (fun _ => True) K f (drp pc C) L S σ → Gd p l e R s m args below meth c cells slots Q D cy ad A nL pc L S σ := by
  have key : ∀ (k : Nat) pc I L S σ, cut pc = some I → I L S σ k → Gd p l e R s m args below meth c cells slots Q D cy ad A nL pc L S σ := by
    intro k
    induction k using Nat.strongRecOn with
    | ind k ih =>
      intro pc I L S σ hcut hi
      exact wp_sound X hC hl (fun pc' I' L' S' σ' k' hc hk hi' => ih k' hk pc' I' L' S' σ' hc hi') f (drp pc C) pc L S σ (fun z hz => drp_sub hz) (drp_lnk hl) (fun z r' hz => drp_head hz) (hS pc I L S σ k hcut hi)
  intro pc L S σ h
  exact wp_sound X hC hl (fun pc' I' L' S' σ' k' hc _ hi' => key k' pc' I' L' S' σ' hc hi') f (drp pc C) pc L S σ (fun z hz => drp_sub hz) (drp_lnk hl) (fun z r' hz => drp_head hz) h
end
end
section
theorem good_sub {ws : List Cond} (h : ∀ w ∈ ws, w ∈ lw_g) : GoodIn lw_g ws := fun w hw => ⟨h w hw, good_of_word (List.mem_filter.mp (h w hw)).2⟩
def rmD (d : Nat) : Room := { frames := d, cells := 0, slots := 0, locals := 40 * d }
def wz (y : MethodName) (cc : ByteArray) (maxL : Nat) (ret : Option FieldType) : List Cond := .code y cc maxL ret :: lw_g
def As (ad : Nat → Nat → Nat) : Nat → Prop := fun q => ∃ t i, i < cnt t ∧ q = ad t i
def Wd (D : va_G) (cy : Nat → ClassId) (ad : Nat → Nat → Nat) (σ : Mem) (U : State) : Prop := va_P D classes (pool cy ad σ) U.heap ∧ va_K D classes (tysL cy) U ∧ va_D (fun _ => True) (pool cy ad σ) ∧ (∀ t i j, inR (σ t i j)) ∧ ∀ w ∈ nw, va_Nw w U
def Qz (D : va_G) (cy : Nat → ClassId) (ad : Nat → Nat → Nat) (K : Option Int → Mem → Prop) : Array Value → State → Outcome → State → Prop := fun _ st o t => (∃ (r : Option Int) (σ' : Mem), o = .returned (r.map (fun x => Value.int (Int32.ofInt x))) ∧ (∀ x, r = some x → inR x) ∧ K r σ' ∧ Wd D cy ad σ' t) ∧ va_F (As ad) st t
/-- a method's contract: where T asks K, the method returns, and K holds -/
def Ct (l : Launch) (y : MethodName) (cc : ByteArray) (maxL : Nat) (ret : Option FieldType) (n : Nat) (T : Tr) : Prop := ∀ (D : va_G) (cy : Nat → ClassId) (ad : Nat → Nat → Nat) (d : Nat), n ≤ d → ∀ (a : List AV) (σ : Mem) (K : Option Int → Mem → Prop), okS a → T a σ K → Met l y (wz y cc maxL ret) (rmD d) (va_Pc (a.map (vV ad)) (Wd D cy ad σ)) (Qz D cy ad K) 0 0 (As ad)
theorem pool_len {cy : Nat → ClassId} {ad : Nat → Nat → Nat} {σ σ' : Mem} {k : Nat} {q : Nat × va_E} (h : (pool cy ad σ)[k]? = some q) : ∃ q', (pool cy ad σ')[k]? = some q' ∧ q'.1 = q.1 := by
  unfold pool at h ⊢
  rw [List.getElem?_map] at h ⊢
  cases hc : cs[k]? with
  | none => rw [hc] at h; cases h
  | some c =>
    rw [hc] at h
    cases h
    exact ⟨_, rfl, rfl⟩
theorem pool_D {B : Nat → Prop} {cy : Nat → ClassId} {ad : Nat → Nat → Nat} {σ : Mem} (h : va_D B (pool cy ad σ)) (σ' : Mem) : va_D B (pool cy ad σ') := by
  refine ⟨fun i j p q hi hj hpq => ?_, fun k q hk => ?_⟩
  · obtain ⟨p', hp', e1⟩ := pool_len (σ' := σ) hi
    obtain ⟨q', hq', e2⟩ := pool_len (σ' := σ) hj
    exact h.1 i j p' q' hp' hq' (by rw [e1, e2]; exact hpq)
  · obtain ⟨q', hq', e2⟩ := pool_len (σ' := σ) hk
    rw [← e2]
    exact h.2 k q' hq'
theorem pool_As {cy : Nat → ClassId} {ad : Nat → Nat → Nat} {σ : Mem} (h : va_D (fun _ => True) (pool cy ad σ)) (σ' : Mem) : va_D (As ad) (pool cy ad σ') := by
  refine (pool_D h σ').weaken (fun k q hk _ => ?_)
  unfold pool at hk
  rw [List.getElem?_map] at hk
  cases hc : cs[k]? with
  | none => rw [hc] at hk; cases hk
  | some c =>
    rw [hc] at hk
    cases hk
    exact ⟨c.1, c.2, cs_cnt (List.mem_of_getElem? hc), rfl⟩
theorem Wd.blind {D : va_G} {cy : Nat → ClassId} {ad : Nat → Nat → Nat} {σ : Mem} {as : List Value} : FrameBlind (va_Pc as (Wd D cy ad σ)) := fun a U g mk h => ⟨h.1, h.2.1, va_K.moved (u := U) (U := U.calling g mk a) (Vm.Alike.refl U.vm) h.2.2.1, h.2.2.2.1, h.2.2.2.2.1, nw_same (u := U) (U := U.calling g mk a) rfl h.2.2.2.2.2⟩
/-- what the tables say of an own method that is called on its object -/
def MF (y : MethodName) (cc : ByteArray) (maxL : Nat) (ret : Option FieldType) (ci n : Nat) : Prop := (Cond.instanceMethod y ∈ lw_g ∧ Cond.selects y.cls y y ∈ lw_g ∧ Cond.initialized y.cls ∈ lw_g ∧ Cond.code y cc maxL ret ∈ lw_g) ∧ (∃ q, classes[ci]? = some q ∧ q.1 = y.cls) ∧ (y.cls ≠ "java/lang/invoke/MethodHandle" ∧ y.cls ≠ "java/lang/invoke/VarHandle" ∧ (parseMethodDescriptor y.desc).map (fun d => d.parameters.length) = some n) ∧ maxL ≤ 20
def SF (y : MethodName) (cc : ByteArray) (maxL : Nat) (ret : Option FieldType) (n : Nat) : Prop := (Cond.static y ∈ lw_g ∧ Cond.initialized y.cls ∈ lw_g ∧ Cond.code y cc maxL ret ∈ lw_g) ∧ (y.cls ≠ "java/lang/invoke/MethodHandle" ∧ y.cls ≠ "java/lang/invoke/VarHandle" ∧ (parseMethodDescriptor y.desc).map (fun d => d.parameters.length) = some n) ∧ maxL ≤ 20
theorem va_cat_le {ad : Nat → Nat → Nat} : ∀ {rest : List AV}, rest.length ≤ 4 → ((rest.map (vV ad)).map fun v => v.category).sum ≤ 8 := by
  have key : ∀ (rest : List AV), ((rest.map (vV ad)).map fun v => v.category).sum ≤ 2 * rest.length := by
    intro rest
    induction rest with
    | nil => exact Nat.le_refl 0
    | cons v r ih =>
      simp only [List.map_cons, List.sum_cons, List.length_cons]
      rcases lv_cat (vV ad v) with h | h <;> omega
  intro rest h
  have := key rest
  omega
section
variable {p : Program} {l : Launch} {e : Env} {R : Room} {s : State} {m : MethodId} {args : Array Value} {below : List Frame} {meth : Method} {c : Code} {cells slots : Nat} {Q : State → Prop} {D : va_G} {cy : Nat → ClassId} {ad : Nat → Nat → Nat} {A : Nat → Prop} {cc : ByteArray} {nL : Nat}
/-- behind a call that keeps to its contract -/
theorem call_on {H : Heap} {locs : List Loc} {g : JFrame} {rest : List Value} {a : Array Value} {K' : Option Int → Mem → Prop} {σ : Mem} (hA : ∀ q, As ad q → A q) (hS : va_S A s.heap H locs)
    (hr : va_Run p l e R s m args below meth c H locs cells slots 0 0 g rest (Qz D cy ad K' a) (As ad))
    (kk : ∀ r σ' H' locs', Ok D cy ad A s.heap H' locs' σ' → (∀ x, r = some x → inR x) → K' r σ' → W p l e R s m args below meth c H' locs' cells slots Q { g with pc := g.pc + 3, stack := rV r ++ rest }) : W p l e R s m args below meth c H locs cells slots Q g := by
  intro T hT X
  obtain ⟨v, st₀, t, T', L, h0, X', hL, e1, e2, ⟨⟨r, σ', hv, hri, hk, hw⟩, hz, hkp⟩, st⟩ := hr T hT X
  cases hv
  rw [h0] at hz hkp
  obtain ⟨t2, a1, b1⟩ := kk r σ' T'.heap (locs ++ L) ⟨by rw [e1]; exact hw.1, ⟨Nat.le_trans hS.1 (by rw [e1]; exact hz), fun q h1 h2 => by rw [e1, hkp q (Nat.lt_of_lt_of_le h1 hS.1) (fun z => h2 (hA q z))]; exact hS.2.1 q h1 h2, fun q hq => by
    rcases List.mem_append.mp hq with h | h
    · exact hS.2.2 q h
    · exact hA _ (hL q h)⟩, hw.2.2.2.1⟩ hri hk T' rfl X'
  exact ⟨t2, st t2 a1, b1⟩
theorem cr_V {own : String} {k n nn ci maxL : Nat} {y : MethodName} {bytes : ByteArray} {ret : Option FieldType} {T : Tr} (hx : p.tables.exec = Jvm.exec) (hb : c.code = cc) (hml : c.maxLocals = nL) (hown : s.vm.findClass own = some m.cls) (hts : ∀ w ∈ lw_g, w.before args s = true) (hK : va_K D classes (tysL cy) s) (hDD : va_D (fun _ => True) (pool cy ad (fun _ _ _ => 0))) (hNw : ∀ w ∈ nw, va_Nw w s) (hA : ∀ q, As ad q → A q) (hcs : cells ≤ R.cells) (hss : slots ≤ R.slots)
    (hM : Ct l y bytes maxL ret nn T) (hF : MF y bytes maxL ret ci n) (hl : Cond.methodLink own k y ∈ lw_g) (hR : nn + 1 ≤ R.frames ∧ 40 * nn + 40 ≤ R.locals) : CR p l e R s m args below meth c cells slots Q D cy ad A cc nL (.invokevirtual k) (n + 1) (rcv ci) T := by
  intro pc H locs ls σ as rest K' hd hO hls hlen hok hrc hT hrest kk
  obtain ⟨⟨f1, f2, f3, f4⟩, ⟨q, f5, f6⟩, f7, f8⟩ := hF
  rcases as with _ | ⟨(x | ⟨t, i⟩ | x), as'⟩
  · exact hrc.elim
  · exact hrc.elim
  · have ht : t = ci := hrc
    subst ht
    obtain ⟨hv, -⟩ := okS_cons hok
    have h8 := (cls_ok _ _ f5).2.1
    obtain ⟨q0, hc0, hp0⟩ := pool_at cy ad σ (refN hv (by omega))
    rw [enc_obj h8] at hp0
    have hws : ∀ w ∈ wsV own k y.cls y (wz y bytes maxL ret), w ∈ lw_g := by
      intro w hw
      simp only [wsV, wz, List.mem_append, List.mem_cons, List.not_mem_nil, or_false] at hw
      rcases hw with (rfl | rfl | rfl | rfl) | (rfl | hw)
      · exact hl
      · exact f1
      · exact f2
      · exact f3
      · exact f4
      · exact hw
    have hcw : CallW R s args own y.cls k y bytes maxL ret (wz y bytes maxL ret) (rmD nn) 0 0 n := cwV n hts (good_sub hws) rfl rfl rfl ⟨rfl, f7⟩ ⟨hR.1, by show 8 + (maxL + 11) + 40 * nn ≤ R.locals; omega⟩
    have hrecv := va_recv hK hO.1 f5 hp0
    rw [f6] at hrecv
    have hrun := va_runV (g := F0 m pc ls (((Sum.inr (Sum.inl (t, i)) :: as').reverse ++ rest).map (vV ad))) (rest := rest.map (vV ad)) (As := as'.map (vV ad)) (cells := cells) (slots := slots) (locs := locs) (below := below) (meth := meth) (e := e) ⟨hx, hb, hml, hown, hts⟩ (hM D cy ad nn (Nat.le_refl _) _ σ K' hok hT) hcw
      ⟨Wd.blind, hrecv, fun U hU hW => ⟨rfl, by rw [hU]; exact hO.1, va_K.moved hW.alike hK, pool_D hDD σ, hO.2.2, nw_warm hW hNw⟩⟩ rfl (by simpa using hlen) hls (by simp [vV]) (lv_room (va_cat_le hrest)) hd ⟨hcs, hss⟩
    exact call_on (σ := σ) hA hO.2.1 hrun kk
  · exact hrc.elim
theorem cr_S {own : String} {k n nn maxL : Nat} {y : MethodName} {bytes : ByteArray} {ret : Option FieldType} {T : Tr} (hx : p.tables.exec = Jvm.exec) (hb : c.code = cc) (hml : c.maxLocals = nL) (hown : s.vm.findClass own = some m.cls) (hts : ∀ w ∈ lw_g, w.before args s = true) (hK : va_K D classes (tysL cy) s) (hDD : va_D (fun _ => True) (pool cy ad (fun _ _ _ => 0))) (hNw : ∀ w ∈ nw, va_Nw w s) (hA : ∀ q, As ad q → A q) (hcs : cells ≤ R.cells) (hss : slots ≤ R.slots)
    (hM : Ct l y bytes maxL ret nn T) (hF : SF y bytes maxL ret n) (hl : (y.cls = own ∧ Cond.methodLink own k y ∈ lw_g) ∨ ∃ host, Cond.methodLinkNest own k y host ∈ nw) (hR : nn + 1 ≤ R.frames ∧ 40 * nn + 40 ≤ R.locals) : CR p l e R s m args below meth c cells slots Q D cy ad A cc nL (.invokestatic k) n (fun _ => True) T := by
  intro pc H locs ls σ as rest K' hd hO hls hlen hok _ hT hrest kk
  obtain ⟨⟨f1, f2, f3⟩, f7, f8⟩ := hF
  have hRR : (rmD nn).frames + 1 ≤ R.frames ∧ 8 + (maxL + 11) + (rmD nn).locals ≤ R.locals := ⟨hR.1, by show 8 + (maxL + 11) + 40 * nn ≤ R.locals; omega⟩
  have hp : PreS s H (va_Pc (as.map (vV ad)) (Wd D cy ad σ)) (as.map (vV ad)) := ⟨Wd.blind, fun U hU hW => ⟨rfl, by rw [hU]; exact hO.1, va_K.moved hW.alike hK, pool_D hDD σ, hO.2.2, nw_warm hW hNw⟩⟩
  rcases hl with ⟨hcl, hl⟩ | ⟨host, hl⟩
  · have hws : ∀ w ∈ wsS own k y (wz y bytes maxL ret), w ∈ lw_g := by
      intro w hw
      simp only [wsS, wz, List.mem_append, List.mem_cons, List.not_mem_nil, or_false] at hw
      rcases hw with (rfl | rfl | rfl) | (rfl | hw)
      · exact hl
      · exact f1
      · rw [← hcl]; exact f2
      · exact f3
      · exact hw
    have hrun := va_runS (g := F0 m pc ls ((as.reverse ++ rest).map (vV ad))) (rest := rest.map (vV ad)) (As := as.map (vV ad)) (cells := cells) (slots := slots) (locs := locs) (below := below) (meth := meth) (e := e) ⟨hx, hb, hml, hown, hts⟩ (hM D cy ad nn (Nat.le_refl _) _ σ K' hok hT) (cwS n hts (good_sub hws) rfl rfl rfl ⟨hcl, f7⟩ hRR) hp rfl (by simpa using hlen) hls (by simp) (lv_room (va_cat_le hrest)) hd ⟨hcs, hss⟩
    exact call_on (σ := σ) hA hO.2.1 hrun kk
  · have hws : ∀ w ∈ wz y bytes maxL ret, w ∈ lw_g := by
      intro w hw
      simp only [wz, List.mem_cons] at hw
      rcases hw with rfl | hw
      · exact f3
      · exact hw
    have hrun := va_runSN (host := host) (g := F0 m pc ls ((as.reverse ++ rest).map (vV ad))) (rest := rest.map (vV ad)) (As := as.map (vV ad)) (cells := cells) (slots := slots) (locs := locs) (below := below) (meth := meth) (e := e) ⟨hx, hb, hml, hown, hts⟩ (hM D cy ad nn (Nat.le_refl _) _ σ K' hok hT) ⟨va_cnB n hts (good_sub hws) rfl rfl rfl (hNw _ hl) (hts _ f2) f7 hRR, hts _ f1, trivial⟩ hp rfl (by simpa using hlen) hls (by simp) (lv_room (va_cat_le hrest)) hd ⟨hcs, hss⟩
    exact call_on (σ := σ) hA hO.2.1 hrun kk
end
/-! a method, from its entry -/
def eL : List AV → LL
  | [] => []
  | .inr (.inr x) :: r => some (.inr (.inr x)) :: none :: eL r
  | v :: r => some v :: eL r
def entL (a : List AV) (nL : Nat) : LL := eL a ++ List.replicate (nL - (eL a).length) none
theorem eL_len (ad : Nat → Nat → Nat) : ∀ a : List AV, (lg_sl (a.map (vV ad))).length = (eL a).length
  | [] => rfl
  | .inl x :: r => by
    have := eL_len ad r
    simp [lg_sl, eL, vV, Value.category] at this ⊢
    omega
  | .inr (.inl x) :: r => by
    have := eL_len ad r
    simp [lg_sl, eL, vV, Value.category] at this ⊢
    omega
  | .inr (.inr x) :: r => by
    have := eL_len ad r
    simp [lg_sl, eL, vV, Value.category] at this ⊢
    omega
theorem lget_app_none : ∀ (L : LL) (k i : Nat) (v : AV), lget (L ++ List.replicate k none) i = some v → lget L i = some v
  | [], 0, _, _, h => by cases h
  | [], k + 1, 0, _, h => by cases h
  | [], k + 1, i + 1, v, h => by
    have := lget_app_none [] k i v h
    cases this
  | _ :: _, _, 0, _, h => h
  | _ :: L, k, i + 1, v, h => lget_app_none L k i v h
theorem eL_arg (ad : Nat → Nat → Nat) : ∀ (a : List AV) (k i : Nat) (v : AV), lget (eL a) i = some v → (k + i, vV ad v) ∈ lv_args k (a.map (vV ad))
  | [], _, _, _, h => by cases h
  | .inl x :: r, k, 0, v, h => by cases h; exact List.mem_cons_self
  | .inr (.inl x) :: r, k, 0, v, h => by cases h; exact List.mem_cons_self
  | .inr (.inr x) :: r, k, 0, v, h => by cases h; exact List.mem_cons_self
  | .inl x :: r, k, i + 1, v, h => by
    have := eL_arg ad r (k + 1) i v h
    refine List.mem_cons_of_mem _ ?_
    rw [show k + (i + 1) = k + 1 + i by omega]
    exact this
  | .inr (.inl x) :: r, k, i + 1, v, h => by
    have := eL_arg ad r (k + 1) i v h
    refine List.mem_cons_of_mem _ ?_
    rw [show k + (i + 1) = k + 1 + i by omega]
    exact this
  | .inr (.inr x) :: r, k, 1, v, h => by cases h
  | .inr (.inr x) :: r, k, i + 2, v, h => by
    have := eL_arg ad r (k + 2) i v h
    refine List.mem_cons_of_mem _ ?_
    rw [show k + (i + 2) = k + 2 + i by omega]
    exact this
theorem rel_entry (ad : Nat → Nat → Nat) (a : List AV) {nL : Nat} (h : (eL a).length ≤ nL) : rel ad (entL a nL) nL ((lg_sl (a.map (vV ad)) ++ List.replicate (nL - (lg_sl (a.map (vV ad))).length) Slot.unset).toArray) := by
  have hl := lv_entry (a.map (vV ad)) (n := nL) (by rw [eL_len]; exact h)
  refine ⟨by unfold entL; simp; omega, hl.2.1, hl.1, fun i v hv => ?_⟩
  have h1 := eL_arg ad a 0 i v (lget_app_none _ _ _ _ hv)
  rw [Nat.zero_add] at h1
  exact hl.2.2 _ h1
theorem okL_entry {a : List AV} (h : okS a) (nL : Nat) : okL (entL a nL) := by
  have key : ∀ (a : List AV), okS a → okL (eL a) := by
    intro a
    induction a with
    | nil => intro _ i v hv; cases hv
    | cons w r ih =>
      intro h i v hv
      obtain ⟨h1, h2⟩ := okS_cons h
      rcases w with x | c | x
      · cases i with
        | zero => cases hv; exact h1
        | succ i => exact ih h2 i v hv
      · cases i with
        | zero => cases hv; exact h1
        | succ i => exact ih h2 i v hv
      · match i, hv with
        | 0, hv => cases hv; exact h1
        | 1, hv => cases hv
        | i + 2, hv => exact ih h2 i v hv
  exact fun i v hv => key a h i v (lget_app_none _ _ _ _ hv)
/-- what a method answers, by its type -/
def Kr (ret : Option FieldType) (K : Option Int → Mem → Prop) : Option Int → Mem → Prop := fun r σ => match r with
  | none => ret = none ∧ K none σ
  | some x => (ret = some .int ∨ (ret = some .boolean ∧ (x = 0 ∨ x = 1))) ∧ K (some x) σ
/-- a site of a call: which method, what it pops, its contract -/
def Site (l : Launch) (own : String) (k n ci nn : Nat) (T : Tr) : Prop := ∃ (y : MethodName) (bytes : ByteArray) (maxL : Nat) (ret : Option FieldType), Ct l y bytes maxL ret nn T ∧
  ((∃ n', n = n' + 1 ∧ MF y bytes maxL ret ci n' ∧ Cond.methodLink own k y ∈ lw_g) ∨ (ci = 99 ∧ SF y bytes maxL ret n ∧ ((y.cls = own ∧ Cond.methodLink own k y ∈ lw_g) ∨ ∃ host, Cond.methodLinkNest own k y host ∈ nw)))
def FldOK (own : String) (fr : Nat → Option (Nat × Nat × Int)) : Prop := ∀ k t j z, fr k = some (t, j, z) → ∃ q, classes[t]? = some q ∧ z = (j : Int) ∧ j < q.2.2 ∧ Cond.fieldLink own k (q.2.1 j).1 (q.2.1 j).2.1 (q.2.1 j).2.2.1 ∈ lw_g
def CstOK (own : String) (kc : Nat → Option Int) (kl : Nat → Option Int64) : Prop := (∀ k x, kc k = some x → inR x ∧ Cond.constant own k (Int32.ofInt x) ∈ lw_g) ∧ ∀ k x, kl k = some x → Cond.constantLong own k x ∈ lw_g
end
section
set_option maxHeartbeats 2000000 in
/-- THE RULE: a method keeps to its contract, when its instructions do, over abstract values -/
theorem mk_met {l : Launch} {y : MethodName} {cc : ByteArray} {maxL : Nat} {ret : Option FieldType} {n : Nat} {T : Tr} (hy : plainName y.cls = true) {C : CL} (hC : ∀ q ∈ C, chk cc q) (hl : lnk C = true) {fr : Nat → Option (Nat × Nat × Int)} {kc : Nat → Option Int} {kl : Nat → Option Int64} (hF : FldOK y.cls fr) (hCst : CstOK y.cls kc kl) {ca : Nat → Option (Nat × Nat × Tr)} (hca : ∀ k n' ci T', ca k = some (n', ci, T') → ∃ nn, nn + 1 ≤ n ∧ Site l y.cls k n' ci nn T')
    (hlen : ∀ a σ K, T a σ K → (eL a).length ≤ maxL)
    (body : ∀ a σ K, okS a → (∀ t i j, inR (σ t i j)) → T a σ K → ∃ (cut : Cut) (f : Nat), (∀ pc I L S σ' k, cut pc = some I → I L S σ' k → wp (fr, kc, kl, ca, false, 0, fun _ => 0) C cut (fun k' => k' < k) (Kr ret K) f (drp pc C) L S σ') ∧ wp (fr, kc, kl, ca, false, 0, fun _ => 0) C cut (fun _ => True) (Kr ret K) f (drp 0 C) (entL a maxL) [] σ) : Ct l y cc maxL ret n T := by
  intro D cy ad d hd a σ K ha hT
  refine Met.ofW (cc := cc) (maxL := maxL) (ret := ret) hy rfl ?_
  intro p e s m args below meth c s₁ B hml hv
  obtain ⟨rfl, hP, hK, hD0, hR, hNw⟩ := hv
  have hx := B.exec
  have hb := B.bytes
  have hr := B.returns
  have hts0 := atoms_spec (ws := wz y cc maxL ret) B.pre
  have hts : ∀ w ∈ lw_g, w.before (a.map (vV ad)).toArray s = true := fun w hw => hts0 w (List.mem_cons_of_mem _ hw)
  have hown : s.vm.findClass y.cls = some m.cls := findClass_of_methodNamed B.named
  have hlocks := B.notSynchronized
  obtain ⟨cut, f, h1, h2⟩ := body a σ K ha hR hT
  rw [lg_entry_eq]
  have hend : ∀ (r : Option Int) (σ' : Mem) (H : Heap) (locs : List Loc), Ok D cy ad (As ad) s.heap H locs σ' → (∀ x, r = some x → inR x) → K r σ' → ∀ t : State, t.heap = H → s.WarmedH t.vm → Qz D cy ad K (a.map (vV ad)).toArray s (.returned (r.map (fun x => Value.int (Int32.ofInt x)))) t := by
    intro r σ' H locs hO hri hk t ht hW
    exact ⟨⟨r, σ', rfl, hri, hk, by rw [ht]; exact hO.1, va_K.moved hW.alike hK, pool_D hD0 σ', hO.2.2, nw_warm hW hNw⟩, hO.2.1.F ht⟩
  have X : Cx p l e (headSpec (wz y cc maxL ret) (rmD d)).room s m (a.map (vV ad)).toArray below meth c 0 0 (MQ below (Qz D cy ad K) (a.map (vV ad)).toArray s 0 0 (As ad)) D cy ad (As ad) cc maxL y.cls (fr, kc, kl, ca, false, 0, fun _ => 0) (Kr ret K) := by
    refine ⟨⟨hx, hb, hown, hts, hK, fun σ' => pool_As hD0 σ'⟩, fun k t j z h => ?_, fun k x h => ⟨(hCst.1 k x h).1, hts _ (hCst.1 k x h).2⟩, fun k x h => hts _ (hCst.2 k x h), fun k n' ci T' h => ?_, fun h => (by cases h), fun x pc H locs ls σ' hdg hO hxr hk => ?_, fun pc H locs ls σ' hdg hO hk => ?_⟩
    · obtain ⟨q, e1, e2, e3, e4⟩ := hF k t j z h
      exact ⟨q, e1, e2, e3, hts _ e4⟩
    · obtain ⟨nn, hnn, y', bytes, maxL', ret', hct, hs⟩ := hca k n' ci T' h
      have hRR : nn + 1 ≤ (rmD d).frames ∧ 40 * nn + 40 ≤ (rmD d).locals := ⟨by show nn + 1 ≤ d; omega, by show 40 * nn + 40 ≤ 40 * d; omega⟩
      rcases hs with ⟨n2, rfl, hmf, hlk⟩ | ⟨hci, hsf, hlk⟩
      · refine ⟨fun _ => ?_, fun hci => ?_⟩
        · exact cr_V hx hb hml hown hts hK (pool_D hD0 _) hNw (fun _ q => q) (Nat.zero_le _) (Nat.zero_le _) hct hmf hlk hRR
        · obtain ⟨-, ⟨q, hq, -⟩, -⟩ := hmf
          have := (cls_ok _ _ hq).2.1
          omega
      · refine ⟨fun h8 => by omega, fun _ => ?_⟩
        exact cr_S hx hb hml hown hts hK (pool_D hD0 _) hNw (fun _ q => q) (Nat.zero_le _) (Nat.zero_le _) hct hsf hlk hRR
    · obtain ⟨hty, hk⟩ := hk
      have hq := hend (some x) σ' H locs hO (fun z hz => by cases hz; exact hxr) hk
      rcases hty with rfl | ⟨rfl, rfl | rfl⟩
      · exact W.zret (ty := .int) hx hb hr rfl hq hO.2.1.2.2 hdg
      · exact W.zret (ty := .boolean) hx hb hr rfl hq hO.2.1.2.2 hdg
      · exact W.zret (ty := .boolean) hx hb hr rfl hq hO.2.1.2.2 hdg
    · obtain ⟨rfl, hk⟩ := hk
      exact W.vret hx hb hr (hend none σ' H locs hO (fun z hz => by cases hz) hk) hO.2.1.2.2 hdg
  exact floyd X hC hl h1 0 _ [] σ h2 s.heap [] _ ⟨hP, va_S.rf, hR⟩ (rel_entry ad a (hlen a σ K hT)) (okL_entry ha maxL) (fun v hv => by cases hv)
end
section
def CL_law : CL := [(0, .new 7, 3, []), (3, .dup, 1, []), (4, .invokespecial 9, 3, []), (7, .astore_n 1, 1, []), (8, .new 10, 3, []), (11, .dup, 1, []), (12, .invokespecial 12, 3, []), (15, .astore_n 2, 1, []), (16, .iconst 0, 1, []), (17, .istore_n 3, 1, []), (18, .iload_n 3, 1, []), (19, .aload_n 0, 1, []), (20, .arraylength, 1, []), (21, .iconst 5, 1, []), (22, .isub, 1, []), (23, .if_icmp .gt 806, 3, [829]), (26, .aload_n 0, 1, []), (27, .iload_n 3, 1, []), (28, .iaload, 1, []), (29, .bipush 31, 2, []), (31, .iand, 1, []), (32, .tableswitch 791 0 24 #[116, 149, 192, 225, 258, 271, 284, 297, 330, 353, 386, 419, 442, 465, 488, 531, 564, 617, 670, 683, 706, 719, 732, 745, 768], 116, [823, 148, 181, 224, 257, 290, 303, 316, 329, 362, 385, 418, 451, 474, 497, 520, 563, 596, 649, 702, 715, 738, 751, 764, 777, 800]), (148, .aload_n 1, 1, []), (149, .aload_n 0, 1, []), (150, .iload_n 3, 1, []), (151, .iconst 1, 1, []), (152, .iadd, 1, []), (153, .iaload, 1, []), (154, .aload_n 0, 1, []), (155, .iload_n 3, 1, []), (156, .iconst 2, 1, []), (157, .iadd, 1, []), (158, .iaload, 1, []), (159, .invokevirtual 13, 3, []), (162, .aload_n 2, 1, []), (163, .aload_n 0, 1, []), (164, .iload_n 3, 1, []), (165, .iconst 1, 1, []), (166, .iadd, 1, []), (167, .iaload, 1, []), (168, .aload_n 0, 1, []), (169, .iload_n 3, 1, []), (170, .iconst 2, 1, []), (171, .iadd, 1, []), (172, .iaload, 1, []), (173, .invokevirtual 17, 3, []), (176, .if_icmp .eq 647, 3, [823]), (179, .iconst 0, 1, []), (180, .ireturn, 1, []), (181, .aload_n 1, 1, []), (182, .aload_n 0, 1, []), (183, .iload_n 3, 1, []), (184, .iconst 1, 1, []), (185, .iadd, 1, []), (186, .iaload, 1, []), (187, .aload_n 0, 1, []), (188, .iload_n 3, 1, []), (189, .iconst 2, 1, []), (190, .iadd, 1, []), (191, .iaload, 1, []), (192, .aload_n 0, 1, []), (193, .iload_n 3, 1, []), (194, .iconst 3, 1, []), (195, .iadd, 1, []), (196, .iaload, 1, []), (197, .invokevirtual 18, 3, []), (200, .aload_n 2, 1, []), (201, .aload_n 0, 1, []), (202, .iload_n 3, 1, []), (203, .iconst 1, 1, []), (204, .iadd, 1, []), (205, .iaload, 1, []), (206, .aload_n 0, 1, []), (207, .iload_n 3, 1, []), (208, .iconst 2, 1, []), (209, .iadd, 1, []), (210, .iaload, 1, []), (211, .aload_n 0, 1, []), (212, .iload_n 3, 1, []), (213, .iconst 3, 1, []), (214, .iadd, 1, []), (215, .iaload, 1, []), (216, .invokevirtual 22, 3, []), (219, .if_icmp .eq 604, 3, [823]), (222, .iconst 0, 1, []), (223, .ireturn, 1, []), (224, .aload_n 1, 1, []), (225, .aload_n 0, 1, []), (226, .iload_n 3, 1, []), (227, .iconst 1, 1, []), (228, .iadd, 1, []), (229, .iaload, 1, []), (230, .aload_n 0, 1, []), (231, .iload_n 3, 1, []), (232, .iconst 2, 1, []), (233, .iadd, 1, []), (234, .iaload, 1, []), (235, .invokevirtual 23, 3, []), (238, .aload_n 2, 1, []), (239, .aload_n 0, 1, []), (240, .iload_n 3, 1, []), (241, .iconst 1, 1, []), (242, .iadd, 1, []), (243, .iaload, 1, []), (244, .aload_n 0, 1, []), (245, .iload_n 3, 1, []), (246, .iconst 2, 1, []), (247, .iadd, 1, []), (248, .iaload, 1, []), (249, .invokevirtual 26, 3, []), (252, .if_icmp .eq 571, 3, [823]), (255, .iconst 0, 1, []), (256, .ireturn, 1, []), (257, .aload_n 1, 1, []), (258, .aload_n 0, 1, []), (259, .iload_n 3, 1, []), (260, .iconst 1, 1, []), (261, .iadd, 1, []), (262, .iaload, 1, []), (263, .aload_n 0, 1, []), (264, .iload_n 3, 1, []), (265, .iconst 2, 1, []), (266, .iadd, 1, []), (267, .iaload, 1, []), (268, .invokevirtual 27, 3, []), (271, .aload_n 2, 1, []), (272, .aload_n 0, 1, []), (273, .iload_n 3, 1, []), (274, .iconst 1, 1, []), (275, .iadd, 1, []), (276, .iaload, 1, []), (277, .aload_n 0, 1, []), (278, .iload_n 3, 1, []), (279, .iconst 2, 1, []), (280, .iadd, 1, []), (281, .iaload, 1, []), (282, .invokevirtual 30, 3, []), (285, .if_icmp .eq 538, 3, [823]), (288, .iconst 0, 1, []), (289, .ireturn, 1, []), (290, .aload_n 1, 1, []), (291, .invokevirtual 31, 3, []), (294, .aload_n 2, 1, []), (295, .invokevirtual 35, 3, []), (298, .if_icmp .eq 525, 3, [823]), (301, .iconst 0, 1, []), (302, .ireturn, 1, []), (303, .aload_n 1, 1, []), (304, .invokevirtual 36, 3, []), (307, .aload_n 2, 1, []), (308, .invokevirtual 39, 3, []), (311, .if_icmp .eq 512, 3, [823]), (314, .iconst 0, 1, []), (315, .ireturn, 1, []), (316, .aload_n 1, 1, []), (317, .invokevirtual 40, 3, []), (320, .aload_n 2, 1, []), (321, .invokevirtual 43, 3, []), (324, .if_icmp .eq 499, 3, [823]), (327, .iconst 0, 1, []), (328, .ireturn, 1, []), (329, .aload_n 1, 1, []), (330, .aload_n 0, 1, []), (331, .iload_n 3, 1, []), (332, .iconst 1, 1, []), (333, .iadd, 1, []), (334, .iaload, 1, []), (335, .aload_n 0, 1, []), (336, .iload_n 3, 1, []), (337, .iconst 2, 1, []), (338, .iadd, 1, []), (339, .iaload, 1, []), (340, .invokevirtual 44, 3, []), (343, .aload_n 2, 1, []), (344, .aload_n 0, 1, []), (345, .iload_n 3, 1, []), (346, .iconst 1, 1, []), (347, .iadd, 1, []), (348, .iaload, 1, []), (349, .aload_n 0, 1, []), (350, .iload_n 3, 1, []), (351, .iconst 2, 1, []), (352, .iadd, 1, []), (353, .iaload, 1, []), (354, .invokevirtual 47, 3, []), (357, .if_icmp .eq 466, 3, [823]), (360, .iconst 0, 1, []), (361, .ireturn, 1, []), (362, .aload_n 1, 1, []), (363, .aload_n 0, 1, []), (364, .iload_n 3, 1, []), (365, .iconst 1, 1, []), (366, .iadd, 1, []), (367, .iaload, 1, []), (368, .invokevirtual 48, 3, []), (371, .aload_n 2, 1, []), (372, .aload_n 0, 1, []), (373, .iload_n 3, 1, []), (374, .iconst 1, 1, []), (375, .iadd, 1, []), (376, .iaload, 1, []), (377, .invokevirtual 52, 3, []), (380, .if_icmp .eq 443, 3, [823]), (383, .iconst 0, 1, []), (384, .ireturn, 1, []), (385, .aload_n 1, 1, []), (386, .aload_n 0, 1, []), (387, .iload_n 3, 1, []), (388, .iconst 1, 1, []), (389, .iadd, 1, []), (390, .iaload, 1, []), (391, .aload_n 0, 1, []), (392, .iload_n 3, 1, []), (393, .iconst 2, 1, []), (394, .iadd, 1, []), (395, .iaload, 1, []), (396, .invokevirtual 53, 3, []), (399, .aload_n 2, 1, []), (400, .aload_n 0, 1, []), (401, .iload_n 3, 1, []), (402, .iconst 1, 1, []), (403, .iadd, 1, []), (404, .iaload, 1, []), (405, .aload_n 0, 1, []), (406, .iload_n 3, 1, []), (407, .iconst 2, 1, []), (408, .iadd, 1, []), (409, .iaload, 1, []), (410, .invokevirtual 56, 3, []), (413, .if_icmp .eq 410, 3, [823]), (416, .iconst 0, 1, []), (417, .ireturn, 1, []), (418, .aload_n 1, 1, []), (419, .aload_n 0, 1, []), (420, .iload_n 3, 1, []), (421, .iconst 1, 1, []), (422, .iadd, 1, []), (423, .iaload, 1, []), (424, .aload_n 0, 1, []), (425, .iload_n 3, 1, []), (426, .iconst 2, 1, []), (427, .iadd, 1, []), (428, .iaload, 1, []), (429, .invokevirtual 57, 3, []), (432, .aload_n 2, 1, []), (433, .aload_n 0, 1, []), (434, .iload_n 3, 1, []), (435, .iconst 1, 1, []), (436, .iadd, 1, []), (437, .iaload, 1, []), (438, .aload_n 0, 1, []), (439, .iload_n 3, 1, []), (440, .iconst 2, 1, []), (441, .iadd, 1, []), (442, .iaload, 1, []), (443, .invokevirtual 60, 3, []), (446, .if_icmp .eq 377, 3, [823]), (449, .iconst 0, 1, []), (450, .ireturn, 1, []), (451, .aload_n 1, 1, []), (452, .aload_n 0, 1, []), (453, .iload_n 3, 1, []), (454, .iconst 1, 1, []), (455, .iadd, 1, []), (456, .iaload, 1, []), (457, .invokevirtual 61, 3, []), (460, .aload_n 2, 1, []), (461, .aload_n 0, 1, []), (462, .iload_n 3, 1, []), (463, .iconst 1, 1, []), (464, .iadd, 1, []), (465, .iaload, 1, []), (466, .invokevirtual 64, 3, []), (469, .if_icmp .eq 354, 3, [823]), (472, .iconst 0, 1, []), (473, .ireturn, 1, []), (474, .aload_n 1, 1, []), (475, .aload_n 0, 1, []), (476, .iload_n 3, 1, []), (477, .iconst 1, 1, []), (478, .iadd, 1, []), (479, .iaload, 1, []), (480, .invokevirtual 65, 3, []), (483, .aload_n 2, 1, []), (484, .aload_n 0, 1, []), (485, .iload_n 3, 1, []), (486, .iconst 1, 1, []), (487, .iadd, 1, []), (488, .iaload, 1, []), (489, .invokevirtual 68, 3, []), (492, .if_icmp .eq 331, 3, [823]), (495, .iconst 0, 1, []), (496, .ireturn, 1, []), (497, .aload_n 1, 1, []), (498, .aload_n 0, 1, []), (499, .iload_n 3, 1, []), (500, .iconst 1, 1, []), (501, .iadd, 1, []), (502, .iaload, 1, []), (503, .invokevirtual 69, 3, []), (506, .aload_n 2, 1, []), (507, .aload_n 0, 1, []), (508, .iload_n 3, 1, []), (509, .iconst 1, 1, []), (510, .iadd, 1, []), (511, .iaload, 1, []), (512, .invokevirtual 72, 3, []), (515, .if_icmp .eq 308, 3, [823]), (518, .iconst 0, 1, []), (519, .ireturn, 1, []), (520, .aload_n 1, 1, []), (521, .aload_n 0, 1, []), (522, .iload_n 3, 1, []), (523, .iconst 1, 1, []), (524, .iadd, 1, []), (525, .iaload, 1, []), (526, .aload_n 0, 1, []), (527, .iload_n 3, 1, []), (528, .iconst 2, 1, []), (529, .iadd, 1, []), (530, .iaload, 1, []), (531, .aload_n 0, 1, []), (532, .iload_n 3, 1, []), (533, .iconst 3, 1, []), (534, .iadd, 1, []), (535, .iaload, 1, []), (536, .invokevirtual 73, 3, []), (539, .aload_n 2, 1, []), (540, .aload_n 0, 1, []), (541, .iload_n 3, 1, []), (542, .iconst 1, 1, []), (543, .iadd, 1, []), (544, .iaload, 1, []), (545, .aload_n 0, 1, []), (546, .iload_n 3, 1, []), (547, .iconst 2, 1, []), (548, .iadd, 1, []), (549, .iaload, 1, []), (550, .aload_n 0, 1, []), (551, .iload_n 3, 1, []), (552, .iconst 3, 1, []), (553, .iadd, 1, []), (554, .iaload, 1, []), (555, .invokevirtual 76, 3, []), (558, .if_icmp .eq 265, 3, [823]), (561, .iconst 0, 1, []), (562, .ireturn, 1, []), (563, .aload_n 1, 1, []), (564, .aload_n 0, 1, []), (565, .iload_n 3, 1, []), (566, .iconst 1, 1, []), (567, .iadd, 1, []), (568, .iaload, 1, []), (569, .aload_n 0, 1, []), (570, .iload_n 3, 1, []), (571, .iconst 2, 1, []), (572, .iadd, 1, []), (573, .iaload, 1, []), (574, .invokevirtual 77, 3, []), (577, .aload_n 2, 1, []), (578, .aload_n 0, 1, []), (579, .iload_n 3, 1, []), (580, .iconst 1, 1, []), (581, .iadd, 1, []), (582, .iaload, 1, []), (583, .aload_n 0, 1, []), (584, .iload_n 3, 1, []), (585, .iconst 2, 1, []), (586, .iadd, 1, []), (587, .iaload, 1, []), (588, .invokevirtual 80, 3, []), (591, .if_icmp .eq 232, 3, [823]), (594, .iconst 0, 1, []), (595, .ireturn, 1, []), (596, .aload_n 1, 1, []), (597, .aload_n 0, 1, []), (598, .iload_n 3, 1, []), (599, .iconst 1, 1, []), (600, .iadd, 1, []), (601, .iaload, 1, []), (602, .aload_n 0, 1, []), (603, .iload_n 3, 1, []), (604, .iconst 2, 1, []), (605, .iadd, 1, []), (606, .iaload, 1, []), (607, .aload_n 0, 1, []), (608, .iload_n 3, 1, []), (609, .iconst 3, 1, []), (610, .iadd, 1, []), (611, .iaload, 1, []), (612, .aload_n 0, 1, []), (613, .iload_n 3, 1, []), (614, .iconst 4, 1, []), (615, .iadd, 1, []), (616, .iaload, 1, []), (617, .invokevirtual 81, 3, []), (620, .aload_n 2, 1, []), (621, .aload_n 0, 1, []), (622, .iload_n 3, 1, []), (623, .iconst 1, 1, []), (624, .iadd, 1, []), (625, .iaload, 1, []), (626, .aload_n 0, 1, []), (627, .iload_n 3, 1, []), (628, .iconst 2, 1, []), (629, .iadd, 1, []), (630, .iaload, 1, []), (631, .aload_n 0, 1, []), (632, .iload_n 3, 1, []), (633, .iconst 3, 1, []), (634, .iadd, 1, []), (635, .iaload, 1, []), (636, .aload_n 0, 1, []), (637, .iload_n 3, 1, []), (638, .iconst 4, 1, []), (639, .iadd, 1, []), (640, .iaload, 1, []), (641, .invokevirtual 85, 3, []), (644, .if_icmp .eq 179, 3, [823]), (647, .iconst 0, 1, []), (648, .ireturn, 1, []), (649, .aload_n 1, 1, []), (650, .aload_n 0, 1, []), (651, .iload_n 3, 1, []), (652, .iconst 1, 1, []), (653, .iadd, 1, []), (654, .iaload, 1, []), (655, .i2l, 1, []), (656, .bipush 32, 2, []), (658, .lshl, 1, []), (659, .aload_n 0, 1, []), (660, .iload_n 3, 1, []), (661, .iconst 2, 1, []), (662, .iadd, 1, []), (663, .iaload, 1, []), (664, .i2l, 1, []), (665, .ldc2_w 86, 3, []), (668, .land, 1, []), (669, .lor, 1, []), (670, .invokevirtual 88, 3, []), (673, .aload_n 2, 1, []), (674, .aload_n 0, 1, []), (675, .iload_n 3, 1, []), (676, .iconst 1, 1, []), (677, .iadd, 1, []), (678, .iaload, 1, []), (679, .i2l, 1, []), (680, .bipush 32, 2, []), (682, .lshl, 1, []), (683, .aload_n 0, 1, []), (684, .iload_n 3, 1, []), (685, .iconst 2, 1, []), (686, .iadd, 1, []), (687, .iaload, 1, []), (688, .i2l, 1, []), (689, .ldc2_w 86, 3, []), (692, .land, 1, []), (693, .lor, 1, []), (694, .invokevirtual 92, 3, []), (697, .if_icmp .eq 126, 3, [823]), (700, .iconst 0, 1, []), (701, .ireturn, 1, []), (702, .aload_n 1, 1, []), (703, .invokevirtual 93, 3, []), (706, .aload_n 2, 1, []), (707, .invokevirtual 96, 3, []), (710, .if_icmp .eq 113, 3, [823]), (713, .iconst 0, 1, []), (714, .ireturn, 1, []), (715, .aload_n 1, 1, []), (716, .aload_n 0, 1, []), (717, .iload_n 3, 1, []), (718, .iconst 1, 1, []), (719, .iadd, 1, []), (720, .iaload, 1, []), (721, .invokevirtual 97, 3, []), (724, .aload_n 2, 1, []), (725, .aload_n 0, 1, []), (726, .iload_n 3, 1, []), (727, .iconst 1, 1, []), (728, .iadd, 1, []), (729, .iaload, 1, []), (730, .invokevirtual 100, 3, []), (733, .if_icmp .eq 90, 3, [823]), (736, .iconst 0, 1, []), (737, .ireturn, 1, []), (738, .aload_n 1, 1, []), (739, .invokevirtual 101, 3, []), (742, .aload_n 2, 1, []), (743, .invokevirtual 104, 3, []), (746, .if_icmp .eq 77, 3, [823]), (749, .iconst 0, 1, []), (750, .ireturn, 1, []), (751, .aload_n 1, 1, []), (752, .invokevirtual 105, 3, []), (755, .aload_n 2, 1, []), (756, .invokevirtual 108, 3, []), (759, .if_icmp .eq 64, 3, [823]), (762, .iconst 0, 1, []), (763, .ireturn, 1, []), (764, .aload_n 1, 1, []), (765, .invokevirtual 109, 3, []), (768, .aload_n 2, 1, []), (769, .invokevirtual 112, 3, []), (772, .if_icmp .eq 51, 3, [823]), (775, .iconst 0, 1, []), (776, .ireturn, 1, []), (777, .aload_n 1, 1, []), (778, .aload_n 0, 1, []), (779, .iload_n 3, 1, []), (780, .iconst 1, 1, []), (781, .iadd, 1, []), (782, .iaload, 1, []), (783, .invokevirtual 113, 3, []), (786, .aload_n 2, 1, []), (787, .aload_n 0, 1, []), (788, .iload_n 3, 1, []), (789, .iconst 1, 1, []), (790, .iadd, 1, []), (791, .iaload, 1, []), (792, .invokevirtual 116, 3, []), (795, .if_icmp .eq 28, 3, [823]), (798, .iconst 0, 1, []), (799, .ireturn, 1, []), (800, .aload_n 1, 1, []), (801, .aload_n 0, 1, []), (802, .iload_n 3, 1, []), (803, .iconst 1, 1, []), (804, .iadd, 1, []), (805, .iaload, 1, []), (806, .invokevirtual 117, 3, []), (809, .aload_n 2, 1, []), (810, .aload_n 0, 1, []), (811, .iload_n 3, 1, []), (812, .iconst 1, 1, []), (813, .iadd, 1, []), (814, .iaload, 1, []), (815, .invokevirtual 120, 3, []), (818, .if_icmp .eq 5, 3, [823]), (821, .iconst 0, 1, []), (822, .ireturn, 1, []), (823, .iinc 3 5, 3, []), (826, .goto (-808), 3, [18]), (829, .iconst 1, 1, []), (830, .ireturn, 1, [])]
theorem hCL_law : ∀ q ∈ CL_law, chk cL_law q := by decide +kernel
theorem lCL_law : lnk CL_law = true := by decide +kernel
def CX0_record : CL := [(0, .aload_n 0, 1, []), (1, .aload_n 0, 1, []), (2, .getfield 18, 3, []), (5, .iconst 1, 1, []), (6, .iadd, 1, []), (7, .bipush 6, 2, []), (9, .irem, 1, []), (10, .putfield 18, 3, []), (13, .aload_n 0, 1, []), (14, .getfield 11, 3, []), (17, .aload_n 0, 1, []), (18, .getfield 18, 3, []), (21, .aaload, 1, []), (22, .ifnull 16, 3, []), (25, .aload_n 0, 1, []), (26, .getfield 11, 3, []), (29, .aload_n 0, 1, []), (30, .getfield 18, 3, []), (33, .aaload, 1, []), (34, .aload_n 1, 1, []), (35, .invokevirtual 22, 3, []), (38, .aload_n 0, 1, []), (39, .getfield 26, 3, []), (42, .bipush 6, 2, []), (44, .if_icmp .ge 13, 3, [57]), (47, .aload_n 0, 1, []), (48, .dup, 1, []), (49, .getfield 26, 3, []), (52, .iconst 1, 1, []), (53, .iadd, 1, []), (54, .putfield 26, 3, []), (57, .return_, 1, [])]
theorem hCX0_record : ∀ q ∈ CX0_record, chk cX0_record q := by decide +kernel
theorem lCX0_record : lnk CX0_record = true := by decide +kernel
def CX0_takeBack : CL := [(0, .aload_n 0, 1, []), (1, .getfield 26, 3, []), (4, .ifCond .le 42, 3, [46]), (7, .aload_n 1, 1, []), (8, .aload_n 0, 1, []), (9, .getfield 11, 3, []), (12, .aload_n 0, 1, []), (13, .getfield 18, 3, []), (16, .aaload, 1, []), (17, .invokevirtual 22, 3, []), (20, .aload_n 0, 1, []), (21, .aload_n 0, 1, []), (22, .getfield 18, 3, []), (25, .bipush 6, 2, []), (27, .iadd, 1, []), (28, .iconst 1, 1, []), (29, .isub, 1, []), (30, .bipush 6, 2, []), (32, .irem, 1, []), (33, .putfield 18, 3, []), (36, .aload_n 0, 1, []), (37, .dup, 1, []), (38, .getfield 26, 3, []), (41, .iconst 1, 1, []), (42, .isub, 1, []), (43, .putfield 26, 3, []), (46, .return_, 1, [])]
theorem hCX0_takeBack : ∀ q ∈ CX0_takeBack, chk cX0_takeBack q := by decide +kernel
theorem lCX0_takeBack : lnk CX0_takeBack = true := by decide +kernel
def CX1_boundOf : CL := [(0, .iconst 0, 1, []), (1, .istore_n 2, 1, []), (2, .iload_n 2, 1, []), (3, .iconst 4, 1, []), (4, .if_icmp .ge 40, 3, [44]), (7, .aload_n 0, 1, []), (8, .getfield 24, 3, []), (11, .iconst 4, 1, []), (12, .iload_n 1, 1, []), (13, .imul, 1, []), (14, .iload_n 2, 1, []), (15, .iadd, 1, []), (16, .iaload, 1, []), (17, .istore_n 3, 1, []), (18, .aload_n 0, 1, []), (19, .getfield 45, 3, []), (22, .iload_n 2, 1, []), (23, .iload_n 3, 1, []), (24, .ifCond .lt 12, 3, [36]), (27, .aload_n 0, 1, []), (28, .getfield 18, 3, []), (31, .iload_n 3, 1, []), (32, .iaload, 1, []), (33, .goto 4, 3, [37]), (36, .iconst 0, 1, []), (37, .iastore, 1, []), (38, .iinc 2 1, 3, []), (41, .goto (-39), 3, [2]), (44, .iconst 0, 1, []), (45, .istore_n 2, 1, []), (46, .iconst 0, 1, []), (47, .istore_n 3, 1, []), (48, .iconst 0, 1, []), (49, .istore 4, 2, []), (51, .iload 4, 2, []), (53, .bipush 8, 2, []), (55, .if_icmp .gt 154, 3, [209]), (58, .aload_n 0, 1, []), (59, .iload_n 1, 1, []), (60, .iload_n 3, 1, []), (61, .invokevirtual 126, 3, []), (64, .istore 5, 2, []), (66, .aload_n 0, 1, []), (67, .iload_n 1, 1, []), (68, .iload_n 3, 1, []), (69, .invokevirtual 129, 3, []), (72, .istore 6, 2, []), (74, .iload 6, 2, []), (76, .bipush (-6), 2, []), (78, .if_icmp .ne 14, 3, [92]), (81, .iload 5, 2, []), (83, .sipush 1000, 3, []), (86, .if_icmp .ne 6, 3, [92]), (89, .goto 120, 3, [209]), (92, .iload 6, 2, []), (94, .bipush (-6), 2, []), (96, .if_icmp .ne 9, 3, [105]), (99, .iload 5, 2, []), (101, .istore_n 3, 1, []), (102, .goto 101, 3, [203]), (105, .aload_n 0, 1, []), (106, .getfield 45, 3, []), (109, .iload 6, 2, []), (111, .iaload, 1, []), (112, .iload 5, 2, []), (114, .iload_n 3, 1, []), (115, .isub, 1, []), (116, .if_icmp .ge 13, 3, [129]), (119, .aload_n 0, 1, []), (120, .getfield 45, 3, []), (123, .iload 6, 2, []), (125, .iaload, 1, []), (126, .goto 7, 3, [133]), (129, .iload 5, 2, []), (131, .iload_n 3, 1, []), (132, .isub, 1, []), (133, .istore 7, 2, []), (135, .iload_n 3, 1, []), (136, .iload 7, 2, []), (138, .iadd, 1, []), (139, .istore_n 3, 1, []), (140, .aload_n 0, 1, []), (141, .getfield 45, 3, []), (144, .iload 6, 2, []), (146, .dup2, 1, []), (147, .iaload, 1, []), (148, .iload 7, 2, []), (150, .isub, 1, []), (151, .iastore, 1, []), (152, .aload_n 0, 1, []), (153, .getfield 24, 3, []), (156, .iconst 4, 1, []), (157, .iload_n 1, 1, []), (158, .imul, 1, []), (159, .iload 6, 2, []), (161, .iadd, 1, []), (162, .iaload, 1, []), (163, .istore 8, 2, []), (165, .aload_n 0, 1, []), (166, .getfield 45, 3, []), (169, .iload 6, 2, []), (171, .iaload, 1, []), (172, .ifCond .ne 31, 3, [203]), (175, .iload 8, 2, []), (177, .ifCond .lt 26, 3, [203]), (180, .iload_n 3, 1, []), (181, .aload_n 0, 1, []), (182, .getfield 33, 3, []), (185, .iload 8, 2, []), (187, .iaload, 1, []), (188, .iadd, 1, []), (189, .iload_n 2, 1, []), (190, .if_icmp .le 13, 3, [203]), (193, .iload_n 3, 1, []), (194, .aload_n 0, 1, []), (195, .getfield 33, 3, []), (198, .iload 8, 2, []), (200, .iaload, 1, []), (201, .iadd, 1, []), (202, .istore_n 2, 1, []), (203, .iinc 4 1, 3, []), (206, .goto (-155), 3, [51]), (209, .iload_n 2, 1, []), (210, .ireturn, 1, [])]
theorem hCX1_boundOf : ∀ q ∈ CX1_boundOf, chk cX1_boundOf q := by decide +kernel
theorem lCX1_boundOf : lnk CX1_boundOf = true := by decide +kernel
def CX1_decide : CL := [(0, .aload_n 0, 1, []), (1, .getfield 27, 3, []), (4, .iload_n 2, 1, []), (5, .dup2, 1, []), (6, .iaload, 1, []), (7, .iconst 1, 1, []), (8, .iload_n 1, 1, []), (9, .iconst 4, 1, []), (10, .idiv, 1, []), (11, .ishl, 1, []), (12, .ior, 1, []), (13, .iastore, 1, []), (14, .return_, 1, [])]
theorem hCX1_decide : ∀ q ∈ CX1_decide, chk cX1_decide q := by decide +kernel
theorem lCX1_decide : lnk CX1_decide = true := by decide +kernel
def CX1_decidedPairs : CL := [(0, .iconst 0, 1, []), (1, .istore_n 1, 1, []), (2, .iconst 0, 1, []), (3, .istore_n 2, 1, []), (4, .iload_n 2, 1, []), (5, .bipush 16, 2, []), (7, .if_icmp .ge 52, 3, [59]), (10, .iconst 0, 1, []), (11, .istore_n 3, 1, []), (12, .iload_n 3, 1, []), (13, .iconst 4, 1, []), (14, .if_icmp .ge 39, 3, [53]), (17, .aload_n 0, 1, []), (18, .getfield 24, 3, []), (21, .iload_n 2, 1, []), (22, .iaload, 1, []), (23, .ifCond .lt 24, 3, [47]), (26, .aload_n 0, 1, []), (27, .getfield 27, 3, []), (30, .aload_n 0, 1, []), (31, .getfield 24, 3, []), (34, .iload_n 2, 1, []), (35, .iaload, 1, []), (36, .iaload, 1, []), (37, .iload_n 3, 1, []), (38, .ishr, 1, []), (39, .iconst 1, 1, []), (40, .iand, 1, []), (41, .ifCond .eq 6, 3, [47]), (44, .iinc 1 1, 3, []), (47, .iinc 3 1, 3, []), (50, .goto (-38), 3, [12]), (53, .iinc 2 1, 3, []), (56, .goto (-52), 3, [4]), (59, .iload_n 1, 1, []), (60, .ireturn, 1, [])]
theorem hCX1_decidedPairs : ∀ q ∈ CX1_decidedPairs, chk cX1_decidedPairs q := by decide +kernel
theorem lCX1_decidedPairs : lnk CX1_decidedPairs = true := by decide +kernel
def CX1_endOf : CL := [(0, .aload_n 0, 1, []), (1, .getfield 30, 3, []), (4, .iload_n 1, 1, []), (5, .iaload, 1, []), (6, .aload_n 0, 1, []), (7, .getfield 18, 3, []), (10, .iload_n 1, 1, []), (11, .iaload, 1, []), (12, .iadd, 1, []), (13, .ireturn, 1, [])]
theorem hCX1_endOf : ∀ q ∈ CX1_endOf, chk cX1_endOf q := by decide +kernel
theorem lCX1_endOf : lnk CX1_endOf = true := by decide +kernel
def CX1_followOrder : CL := [(0, .aload_n 0, 1, []), (1, .iload_n 2, 1, []), (2, .invokevirtual 71, 3, []), (5, .istore 4, 2, []), (7, .iconst 0, 1, []), (8, .istore 5, 2, []), (10, .iload 5, 2, []), (12, .iload_n 3, 1, []), (13, .if_icmp .ge 53, 3, [66]), (16, .iload 5, 2, []), (18, .aload_n 1, 1, []), (19, .getfield 64, 3, []), (22, .iload_n 2, 1, []), (23, .iaload, 1, []), (24, .if_icmp .ge 42, 3, [66]), (27, .aload_n 1, 1, []), (28, .getfield 75, 3, []), (31, .iconst 4, 1, []), (32, .iload_n 2, 1, []), (33, .imul, 1, []), (34, .iload 5, 2, []), (36, .iadd, 1, []), (37, .iaload, 1, []), (38, .istore 6, 2, []), (40, .iload 4, 2, []), (42, .iconst 1, 1, []), (43, .iload 6, 2, []), (45, .ishl, 1, []), (46, .iconst (-1), 1, []), (47, .ixor, 1, []), (48, .iand, 1, []), (49, .istore 4, 2, []), (51, .aload_n 0, 1, []), (52, .iload_n 2, 1, []), (53, .iload 6, 2, []), (55, .iload 4, 2, []), (57, .invokevirtual 78, 3, []), (60, .iinc 5 1, 3, []), (63, .goto (-53), 3, [10]), (66, .return_, 1, [])]
theorem hCX1_followOrder : ∀ q ∈ CX1_followOrder, chk cX1_followOrder q := by decide +kernel
theorem lCX1_followOrder : lnk CX1_followOrder = true := by decide +kernel
def CX1_followOrders : CL := [(0, .iconst 0, 1, []), (1, .istore_n 2, 1, []), (2, .iload_n 2, 1, []), (3, .iconst 4, 1, []), (4, .if_icmp .ge 21, 3, [25]), (7, .aload_n 0, 1, []), (8, .aload_n 1, 1, []), (9, .iload_n 2, 1, []), (10, .aload_n 1, 1, []), (11, .getfield 64, 3, []), (14, .iload_n 2, 1, []), (15, .iaload, 1, []), (16, .invokevirtual 67, 3, []), (19, .iinc 2 1, 3, []), (22, .goto (-20), 3, [2]), (25, .return_, 1, [])]
theorem hCX1_followOrders : ∀ q ∈ CX1_followOrders, chk cX1_followOrders q := by decide +kernel
theorem lCX1_followOrders : lnk CX1_followOrders = true := by decide +kernel
def CX1_forceOn : CL := [(0, .iconst 0, 1, []), (1, .istore_n 3, 1, []), (2, .iconst 0, 1, []), (3, .istore 4, 2, []), (5, .iload 4, 2, []), (7, .iconst 4, 1, []), (8, .if_icmp .ge 153, 3, [161]), (11, .iload 4, 2, []), (13, .iconst 1, 1, []), (14, .iadd, 1, []), (15, .istore 5, 2, []), (17, .iload 5, 2, []), (19, .iconst 4, 1, []), (20, .if_icmp .ge 135, 3, [155]), (23, .aload_n 0, 1, []), (24, .getfield 24, 3, []), (27, .iconst 4, 1, []), (28, .iload_n 1, 1, []), (29, .imul, 1, []), (30, .iload 4, 2, []), (32, .iadd, 1, []), (33, .iaload, 1, []), (34, .istore 6, 2, []), (36, .aload_n 0, 1, []), (37, .getfield 24, 3, []), (40, .iconst 4, 1, []), (41, .iload_n 1, 1, []), (42, .imul, 1, []), (43, .iload 5, 2, []), (45, .iadd, 1, []), (46, .iaload, 1, []), (47, .istore 7, 2, []), (49, .aload_n 0, 1, []), (50, .iload 6, 2, []), (52, .iload 7, 2, []), (54, .invokevirtual 113, 3, []), (57, .ifCond .ne 6, 3, [63]), (60, .goto 89, 3, [149]), (63, .aload_n 0, 1, []), (64, .iload 6, 2, []), (66, .iload 7, 2, []), (68, .invokevirtual 116, 3, []), (71, .iload_n 2, 1, []), (72, .if_icmp .le 7, 3, [79]), (75, .iconst 1, 1, []), (76, .goto 4, 3, [80]), (79, .iconst 0, 1, []), (80, .istore 8, 2, []), (82, .aload_n 0, 1, []), (83, .iload 7, 2, []), (85, .iload 6, 2, []), (87, .invokevirtual 116, 3, []), (90, .iload_n 2, 1, []), (91, .if_icmp .le 7, 3, [98]), (94, .iconst 1, 1, []), (95, .goto 4, 3, [99]), (98, .iconst 0, 1, []), (99, .istore 9, 2, []), (101, .iload 9, 2, []), (103, .ifCond .eq 11, 3, [114]), (106, .iload 8, 2, []), (108, .ifCond .eq 6, 3, [114]), (111, .bipush (-5), 2, []), (113, .ireturn, 1, []), (114, .iload 9, 2, []), (116, .ifCond .eq 17, 3, [133]), (119, .aload_n 0, 1, []), (120, .iload 6, 2, []), (122, .iload 7, 2, []), (124, .invokevirtual 119, 3, []), (127, .iinc 3 1, 3, []), (130, .goto 19, 3, [149]), (133, .iload 8, 2, []), (135, .ifCond .eq 14, 3, [149]), (138, .aload_n 0, 1, []), (139, .iload 7, 2, []), (141, .iload 6, 2, []), (143, .invokevirtual 119, 3, []), (146, .iinc 3 1, 3, []), (149, .iinc 5 1, 3, []), (152, .goto (-135), 3, [17]), (155, .iinc 4 1, 3, []), (158, .goto (-153), 3, [5]), (161, .iload_n 3, 1, []), (162, .ireturn, 1, [])]
theorem hCX1_forceOn : ∀ q ∈ CX1_forceOn, chk cX1_forceOn q := by decide +kernel
theorem lCX1_forceOn : lnk CX1_forceOn = true := by decide +kernel
def CX1_goesAhead : CL := [(0, .aload_n 0, 1, []), (1, .getfield 27, 3, []), (4, .iload_n 2, 1, []), (5, .iaload, 1, []), (6, .iload_n 1, 1, []), (7, .iconst 4, 1, []), (8, .idiv, 1, []), (9, .ishr, 1, []), (10, .iconst 1, 1, []), (11, .iand, 1, []), (12, .ifCond .eq 7, 3, [19]), (15, .iconst 1, 1, []), (16, .goto 4, 3, [20]), (19, .iconst 0, 1, []), (20, .ireturn, 1, [])]
theorem hCX1_goesAhead : ∀ q ∈ CX1_goesAhead, chk cX1_goesAhead q := by decide +kernel
theorem lCX1_goesAhead : lnk CX1_goesAhead = true := by decide +kernel
def CX1_greatestBound : CL := [(0, .iconst 0, 1, []), (1, .istore_n 1, 1, []), (2, .iconst 0, 1, []), (3, .istore_n 2, 1, []), (4, .iload_n 2, 1, []), (5, .iconst 4, 1, []), (6, .if_icmp .ge 26, 3, [32]), (9, .aload_n 0, 1, []), (10, .iload_n 2, 1, []), (11, .invokevirtual 123, 3, []), (14, .istore_n 3, 1, []), (15, .iload_n 3, 1, []), (16, .iload_n 1, 1, []), (17, .if_icmp .le 7, 3, [24]), (20, .iload_n 3, 1, []), (21, .goto 4, 3, [25]), (24, .iload_n 1, 1, []), (25, .istore_n 1, 1, []), (26, .iinc 2 1, 3, []), (29, .goto (-25), 3, [4]), (32, .iload_n 1, 1, []), (33, .ireturn, 1, [])]
theorem hCX1_greatestBound : ∀ q ∈ CX1_greatestBound, chk cX1_greatestBound q := by decide +kernel
theorem lCX1_greatestBound : lnk CX1_greatestBound = true := by decide +kernel
def CX1_headOf : CL := [(0, .aload_n 0, 1, []), (1, .getfield 21, 3, []), (4, .iload_n 1, 1, []), (5, .iaload, 1, []), (6, .istore_n 2, 1, []), (7, .iload_n 1, 1, []), (8, .iconst 4, 1, []), (9, .irem, 1, []), (10, .ifCond .le 32, 3, [42]), (13, .aload_n 0, 1, []), (14, .getfield 30, 3, []), (17, .iload_n 1, 1, []), (18, .iconst 1, 1, []), (19, .isub, 1, []), (20, .iaload, 1, []), (21, .aload_n 0, 1, []), (22, .getfield 18, 3, []), (25, .iload_n 1, 1, []), (26, .iconst 1, 1, []), (27, .isub, 1, []), (28, .iaload, 1, []), (29, .iadd, 1, []), (30, .istore_n 3, 1, []), (31, .iload_n 3, 1, []), (32, .iload_n 2, 1, []), (33, .if_icmp .le 7, 3, [40]), (36, .iload_n 3, 1, []), (37, .goto 4, 3, [41]), (40, .iload_n 2, 1, []), (41, .istore_n 2, 1, []), (42, .aload_n 0, 1, []), (43, .getfield 27, 3, []), (46, .iload_n 1, 1, []), (47, .iaload, 1, []), (48, .istore_n 3, 1, []), (49, .iconst 0, 1, []), (50, .istore 4, 2, []), (52, .iload_n 3, 1, []), (53, .ifCond .eq 81, 3, [134]), (56, .iload 4, 2, []), (58, .iconst 4, 1, []), (59, .if_icmp .ge 75, 3, [134]), (62, .iload_n 3, 1, []), (63, .iload 4, 2, []), (65, .ishr, 1, []), (66, .iconst 1, 1, []), (67, .iand, 1, []), (68, .ifCond .eq 60, 3, [128]), (71, .aload_n 0, 1, []), (72, .getfield 24, 3, []), (75, .iconst 4, 1, []), (76, .aload_n 0, 1, []), (77, .getfield 15, 3, []), (80, .iload_n 1, 1, []), (81, .iaload, 1, []), (82, .imul, 1, []), (83, .iload 4, 2, []), (85, .iadd, 1, []), (86, .iaload, 1, []), (87, .istore 5, 2, []), (89, .iload 5, 2, []), (91, .ifCond .lt 21, 3, [112]), (94, .aload_n 0, 1, []), (95, .getfield 30, 3, []), (98, .iload 5, 2, []), (100, .iaload, 1, []), (101, .aload_n 0, 1, []), (102, .getfield 18, 3, []), (105, .iload 5, 2, []), (107, .iaload, 1, []), (108, .iadd, 1, []), (109, .goto 4, 3, [113]), (112, .iconst 0, 1, []), (113, .istore 6, 2, []), (115, .iload 6, 2, []), (117, .iload_n 2, 1, []), (118, .if_icmp .le 8, 3, [126]), (121, .iload 6, 2, []), (123, .goto 4, 3, [127]), (126, .iload_n 2, 1, []), (127, .istore_n 2, 1, []), (128, .iinc 4 1, 3, []), (131, .goto (-79), 3, [52]), (134, .iload_n 2, 1, []), (135, .ireturn, 1, [])]
theorem hCX1_headOf : ∀ q ∈ CX1_headOf, chk cX1_headOf q := by decide +kernel
theorem lCX1_headOf : lnk CX1_headOf = true := by decide +kernel
def CX1_holdBack : CL := [(0, .iload_n 1, 1, []), (1, .ifCond .lt 26, 3, [27]), (4, .iload_n 1, 1, []), (5, .bipush 16, 2, []), (7, .if_icmp .ge 20, 3, [27]), (10, .aload_n 0, 1, []), (11, .getfield 21, 3, []), (14, .iload_n 1, 1, []), (15, .iaload, 1, []), (16, .iload_n 2, 1, []), (17, .if_icmp .ge 10, 3, [27]), (20, .aload_n 0, 1, []), (21, .getfield 21, 3, []), (24, .iload_n 1, 1, []), (25, .iload_n 2, 1, []), (26, .iastore, 1, []), (27, .return_, 1, [])]
theorem hCX1_holdBack : ∀ q ∈ CX1_holdBack, chk cX1_holdBack q := by decide +kernel
theorem lCX1_holdBack : lnk CX1_holdBack = true := by decide +kernel
def CX1_jobsOn : CL := [(0, .iconst 0, 1, []), (1, .istore_n 2, 1, []), (2, .iconst 0, 1, []), (3, .istore_n 3, 1, []), (4, .iload_n 3, 1, []), (5, .iconst 4, 1, []), (6, .if_icmp .ge 28, 3, [34]), (9, .aload_n 0, 1, []), (10, .getfield 24, 3, []), (13, .iconst 4, 1, []), (14, .iload_n 1, 1, []), (15, .imul, 1, []), (16, .iload_n 3, 1, []), (17, .iadd, 1, []), (18, .iaload, 1, []), (19, .ifCond .lt 9, 3, [28]), (22, .iload_n 2, 1, []), (23, .iconst 1, 1, []), (24, .iload_n 3, 1, []), (25, .ishl, 1, []), (26, .ior, 1, []), (27, .istore_n 2, 1, []), (28, .iinc 3 1, 3, []), (31, .goto (-27), 3, [4]), (34, .iload_n 2, 1, []), (35, .ireturn, 1, [])]
theorem hCX1_jobsOn : ∀ q ∈ CX1_jobsOn, chk cX1_jobsOn q := by decide +kernel
theorem lCX1_jobsOn : lnk CX1_jobsOn = true := by decide +kernel
def CX1_keeps : CL := [(0, .iconst 0, 1, []), (1, .istore_n 2, 1, []), (2, .iload_n 2, 1, []), (3, .bipush 24, 2, []), (5, .if_icmp .gt 72, 3, [77]), (8, .aload_n 0, 1, []), (9, .invokevirtual 105, 3, []), (12, .ifCond .eq 11, 3, [23]), (15, .aload_n 0, 1, []), (16, .getfield 89, 3, []), (19, .iload_n 1, 1, []), (20, .if_icmp .le 5, 3, [25]), (23, .iconst 0, 1, []), (24, .ireturn, 1, []), (25, .iconst 0, 1, []), (26, .istore_n 3, 1, []), (27, .iconst 0, 1, []), (28, .istore 4, 2, []), (30, .iload 4, 2, []), (32, .iconst 4, 1, []), (33, .if_icmp .ge 32, 3, [65]), (36, .aload_n 0, 1, []), (37, .iload 4, 2, []), (39, .iload_n 1, 1, []), (40, .invokevirtual 109, 3, []), (43, .istore 5, 2, []), (45, .iload 5, 2, []), (47, .bipush (-5), 2, []), (49, .if_icmp .ne 5, 3, [54]), (52, .iconst 0, 1, []), (53, .ireturn, 1, []), (54, .iload_n 3, 1, []), (55, .iload 5, 2, []), (57, .iadd, 1, []), (58, .istore_n 3, 1, []), (59, .iinc 4 1, 3, []), (62, .goto (-32), 3, [30]), (65, .iload_n 3, 1, []), (66, .ifCond .ne 5, 3, [71]), (69, .iconst 1, 1, []), (70, .ireturn, 1, []), (71, .iinc 2 1, 3, []), (74, .goto (-72), 3, [2]), (77, .iconst 0, 1, []), (78, .ireturn, 1, [])]
theorem hCX1_keeps : ∀ q ∈ CX1_keeps, chk cX1_keeps q := by decide +kernel
theorem lCX1_keeps : lnk CX1_keeps = true := by decide +kernel
def CX1_letFirst : CL := [(0, .iconst 0, 1, []), (1, .istore 4, 2, []), (3, .iload 4, 2, []), (5, .iconst 4, 1, []), (6, .if_icmp .ge 49, 3, [55]), (9, .aload_n 0, 1, []), (10, .getfield 24, 3, []), (13, .iconst 4, 1, []), (14, .iload_n 1, 1, []), (15, .imul, 1, []), (16, .iload 4, 2, []), (18, .iadd, 1, []), (19, .iaload, 1, []), (20, .istore 5, 2, []), (22, .iload 5, 2, []), (24, .ifCond .lt 25, 3, [49]), (27, .iload_n 3, 1, []), (28, .iload 4, 2, []), (30, .ishr, 1, []), (31, .iconst 1, 1, []), (32, .iand, 1, []), (33, .ifCond .eq 16, 3, [49]), (36, .aload_n 0, 1, []), (37, .getfield 27, 3, []), (40, .iload 5, 2, []), (42, .dup2, 1, []), (43, .iaload, 1, []), (44, .iconst 1, 1, []), (45, .iload_n 2, 1, []), (46, .ishl, 1, []), (47, .ior, 1, []), (48, .iastore, 1, []), (49, .iinc 4 1, 3, []), (52, .goto (-49), 3, [3]), (55, .return_, 1, [])]
theorem hCX1_letFirst : ∀ q ∈ CX1_letFirst, chk cX1_letFirst q := by decide +kernel
theorem lCX1_letFirst : lnk CX1_letFirst = true := by decide +kernel
def CX1_load : CL := [(0, .aload_n 0, 1, []), (1, .iconst 0, 1, []), (2, .putfield 48, 3, []), (5, .iconst 0, 1, []), (6, .istore_n 2, 1, []), (7, .iload_n 2, 1, []), (8, .bipush 16, 2, []), (10, .if_icmp .ge 24, 3, [34]), (13, .aload_n 0, 1, []), (14, .getfield 24, 3, []), (17, .iload_n 2, 1, []), (18, .bipush (-6), 2, []), (20, .iastore, 1, []), (21, .aload_n 0, 1, []), (22, .getfield 27, 3, []), (25, .iload_n 2, 1, []), (26, .iconst 0, 1, []), (27, .iastore, 1, []), (28, .iinc 2 1, 3, []), (31, .goto (-24), 3, [7]), (34, .aload_n 1, 1, []), (35, .getfield 52, 3, []), (38, .aload_n 0, 1, []), (39, .getfield 9, 3, []), (42, .invokestatic 55, 3, []), (45, .iconst 0, 1, []), (46, .istore_n 2, 1, []), (47, .iload_n 2, 1, []), (48, .iconst 4, 1, []), (49, .if_icmp .ge 103, 3, [152]), (52, .iconst 0, 1, []), (53, .istore_n 3, 1, []), (54, .iload_n 3, 1, []), (55, .aload_n 0, 1, []), (56, .getfield 9, 3, []), (59, .iload_n 2, 1, []), (60, .iaload, 1, []), (61, .if_icmp .ge 85, 3, [146]), (64, .iconst 4, 1, []), (65, .iload_n 2, 1, []), (66, .imul, 1, []), (67, .iload_n 3, 1, []), (68, .iadd, 1, []), (69, .istore 4, 2, []), (71, .aload_n 0, 1, []), (72, .getfield 15, 3, []), (75, .iload 4, 2, []), (77, .aload_n 1, 1, []), (78, .getfield 59, 3, []), (81, .iload 4, 2, []), (83, .iaload, 1, []), (84, .iastore, 1, []), (85, .aload_n 0, 1, []), (86, .getfield 18, 3, []), (89, .iload 4, 2, []), (91, .aload_n 1, 1, []), (92, .getfield 60, 3, []), (95, .iload 4, 2, []), (97, .iaload, 1, []), (98, .iastore, 1, []), (99, .aload_n 0, 1, []), (100, .getfield 21, 3, []), (103, .iload 4, 2, []), (105, .aload_n 1, 1, []), (106, .getfield 61, 3, []), (109, .iload_n 2, 1, []), (110, .iaload, 1, []), (111, .iastore, 1, []), (112, .aload_n 0, 1, []), (113, .getfield 24, 3, []), (116, .iconst 4, 1, []), (117, .aload_n 0, 1, []), (118, .getfield 15, 3, []), (121, .iload 4, 2, []), (123, .iaload, 1, []), (124, .imul, 1, []), (125, .iload_n 2, 1, []), (126, .iadd, 1, []), (127, .iload 4, 2, []), (129, .iastore, 1, []), (130, .aload_n 0, 1, []), (131, .dup, 1, []), (132, .getfield 48, 3, []), (135, .iconst 1, 1, []), (136, .iadd, 1, []), (137, .putfield 48, 3, []), (140, .iinc 3 1, 3, []), (143, .goto (-89), 3, [54]), (146, .iinc 2 1, 3, []), (149, .goto (-102), 3, [47]), (152, .return_, 1, [])]
theorem hCX1_load : ∀ q ∈ CX1_load, chk cX1_load q := by decide +kernel
theorem lCX1_load : lnk CX1_load = true := by decide +kernel
def CX1_longestPair : CL := [(0, .bipush (-6), 2, []), (2, .istore_n 1, 1, []), (3, .iconst 0, 1, []), (4, .istore_n 2, 1, []), (5, .iconst 0, 1, []), (6, .istore_n 3, 1, []), (7, .iload_n 3, 1, []), (8, .bipush 16, 2, []), (10, .if_icmp .ge 124, 3, [134]), (13, .aload_n 0, 1, []), (14, .getfield 24, 3, []), (17, .iload_n 3, 1, []), (18, .iaload, 1, []), (19, .istore 4, 2, []), (21, .iload_n 3, 1, []), (22, .iconst 1, 1, []), (23, .iadd, 1, []), (24, .istore 5, 2, []), (26, .iload 5, 2, []), (28, .bipush 16, 2, []), (30, .if_icmp .ge 98, 3, [128]), (33, .iload 5, 2, []), (35, .iconst 4, 1, []), (36, .irem, 1, []), (37, .ifCond .le 91, 3, [128]), (40, .aload_n 0, 1, []), (41, .getfield 24, 3, []), (44, .iload 5, 2, []), (46, .iaload, 1, []), (47, .istore 6, 2, []), (49, .aload_n 0, 1, []), (50, .iload 4, 2, []), (52, .iload 6, 2, []), (54, .invokevirtual 113, 3, []), (57, .ifCond .eq 65, 3, [122]), (60, .aload_n 0, 1, []), (61, .iload 4, 2, []), (63, .iload 6, 2, []), (65, .invokevirtual 116, 3, []), (68, .istore 7, 2, []), (70, .aload_n 0, 1, []), (71, .iload 6, 2, []), (73, .iload 4, 2, []), (75, .invokevirtual 116, 3, []), (78, .istore 8, 2, []), (80, .iload 7, 2, []), (82, .iload 8, 2, []), (84, .iadd, 1, []), (85, .iload_n 2, 1, []), (86, .if_icmp .le 36, 3, [122]), (89, .iload 7, 2, []), (91, .iload 8, 2, []), (93, .iadd, 1, []), (94, .istore_n 2, 1, []), (95, .iload 7, 2, []), (97, .iload 8, 2, []), (99, .if_icmp .gt 14, 3, [113]), (102, .bipush 16, 2, []), (104, .iload 4, 2, []), (106, .imul, 1, []), (107, .iload 6, 2, []), (109, .iadd, 1, []), (110, .goto 11, 3, [121]), (113, .bipush 16, 2, []), (115, .iload 6, 2, []), (117, .imul, 1, []), (118, .iload 4, 2, []), (120, .iadd, 1, []), (121, .istore_n 1, 1, []), (122, .iinc 5 1, 3, []), (125, .goto (-99), 3, [26]), (128, .iinc 3 1, 3, []), (131, .goto (-124), 3, [7]), (134, .iload_n 1, 1, []), (135, .ireturn, 1, [])]
theorem hCX1_longestPair : ∀ q ∈ CX1_longestPair, chk cX1_longestPair q := by decide +kernel
theorem lCX1_longestPair : lnk CX1_longestPair = true := by decide +kernel
def CX1_measure : CL := [(0, .aload_n 0, 1, []), (1, .iconst 0, 1, []), (2, .putfield 92, 3, []), (5, .iconst 0, 1, []), (6, .istore_n 1, 1, []), (7, .iload_n 1, 1, []), (8, .iconst 4, 1, []), (9, .if_icmp .ge 16, 3, [25]), (12, .aload_n 0, 1, []), (13, .getfield 39, 3, []), (16, .iload_n 1, 1, []), (17, .iconst 0, 1, []), (18, .iastore, 1, []), (19, .iinc 1 1, 3, []), (22, .goto (-15), 3, [7]), (25, .iconst 0, 1, []), (26, .istore_n 1, 1, []), (27, .iload_n 1, 1, []), (28, .iconst 4, 1, []), (29, .if_icmp .ge 16, 3, [45]), (32, .aload_n 0, 1, []), (33, .getfield 42, 3, []), (36, .iload_n 1, 1, []), (37, .iconst 0, 1, []), (38, .iastore, 1, []), (39, .iinc 1 1, 3, []), (42, .goto (-15), 3, [27]), (45, .iconst 1, 1, []), (46, .istore_n 1, 1, []), (47, .iconst 0, 1, []), (48, .istore_n 2, 1, []), (49, .iload_n 2, 1, []), (50, .bipush 16, 2, []), (52, .if_icmp .ge 53, 3, [105]), (55, .iload_n 1, 1, []), (56, .ifCond .eq 49, 3, [105]), (59, .aload_n 0, 1, []), (60, .getfield 92, 3, []), (63, .istore_n 3, 1, []), (64, .iconst 0, 1, []), (65, .istore 4, 2, []), (67, .iload 4, 2, []), (69, .iconst 4, 1, []), (70, .if_icmp .ge 15, 3, [85]), (73, .aload_n 0, 1, []), (74, .iload 4, 2, []), (76, .invokevirtual 95, 3, []), (79, .iinc 4 1, 3, []), (82, .goto (-15), 3, [67]), (85, .aload_n 0, 1, []), (86, .getfield 92, 3, []), (89, .iload_n 3, 1, []), (90, .if_icmp .le 7, 3, [97]), (93, .iconst 1, 1, []), (94, .goto 4, 3, [98]), (97, .iconst 0, 1, []), (98, .istore_n 1, 1, []), (99, .iinc 2 1, 3, []), (102, .goto (-53), 3, [49]), (105, .aload_n 0, 1, []), (106, .getfield 92, 3, []), (109, .aload_n 0, 1, []), (110, .getfield 48, 3, []), (113, .if_icmp .ge 5, 3, [118]), (116, .iconst 0, 1, []), (117, .ireturn, 1, []), (118, .aload_n 0, 1, []), (119, .iconst 0, 1, []), (120, .putfield 89, 3, []), (123, .aload_n 0, 1, []), (124, .getfield 92, 3, []), (127, .iconst 1, 1, []), (128, .isub, 1, []), (129, .istore_n 2, 1, []), (130, .iload_n 2, 1, []), (131, .ifCond .lt 63, 3, [194]), (134, .aload_n 0, 1, []), (135, .getfield 36, 3, []), (138, .iload_n 2, 1, []), (139, .iaload, 1, []), (140, .istore_n 3, 1, []), (141, .aload_n 0, 1, []), (142, .getfield 33, 3, []), (145, .iload_n 3, 1, []), (146, .aload_n 0, 1, []), (147, .iload_n 3, 1, []), (148, .invokevirtual 99, 3, []), (151, .iastore, 1, []), (152, .aload_n 0, 1, []), (153, .iload_n 3, 1, []), (154, .invokevirtual 86, 3, []), (157, .aload_n 0, 1, []), (158, .getfield 33, 3, []), (161, .iload_n 3, 1, []), (162, .iaload, 1, []), (163, .iadd, 1, []), (164, .istore 4, 2, []), (166, .aload_n 0, 1, []), (167, .iload 4, 2, []), (169, .aload_n 0, 1, []), (170, .getfield 89, 3, []), (173, .if_icmp .le 8, 3, [181]), (176, .iload 4, 2, []), (178, .goto 7, 3, [185]), (181, .aload_n 0, 1, []), (182, .getfield 89, 3, []), (185, .putfield 89, 3, []), (188, .iinc 2 (-1), 3, []), (191, .goto (-61), 3, [130]), (194, .iconst 1, 1, []), (195, .ireturn, 1, [])]
theorem hCX1_measure : ∀ q ∈ CX1_measure, chk cX1_measure q := by decide +kernel
theorem lCX1_measure : lnk CX1_measure = true := by decide +kernel
def CX1_mostUrgent : CL := [(0, .bipush (-6), 2, []), (2, .istore_n 3, 1, []), (3, .iconst (-1), 1, []), (4, .istore 4, 2, []), (6, .iconst 0, 1, []), (7, .istore 5, 2, []), (9, .iload 5, 2, []), (11, .iconst 4, 1, []), (12, .if_icmp .ge 72, 3, [84]), (15, .aload_n 0, 1, []), (16, .getfield 24, 3, []), (19, .iconst 4, 1, []), (20, .iload_n 1, 1, []), (21, .imul, 1, []), (22, .iload 5, 2, []), (24, .iadd, 1, []), (25, .iaload, 1, []), (26, .istore 6, 2, []), (28, .iload 6, 2, []), (30, .ifCond .lt 48, 3, [78]), (33, .aload_n 0, 1, []), (34, .getfield 45, 3, []), (37, .iload 5, 2, []), (39, .iaload, 1, []), (40, .ifCond .le 38, 3, [78]), (43, .aload_n 0, 1, []), (44, .getfield 30, 3, []), (47, .iload 6, 2, []), (49, .iaload, 1, []), (50, .iload_n 2, 1, []), (51, .if_icmp .gt 27, 3, [78]), (54, .aload_n 0, 1, []), (55, .getfield 33, 3, []), (58, .iload 6, 2, []), (60, .iaload, 1, []), (61, .iload 4, 2, []), (63, .if_icmp .le 15, 3, [78]), (66, .iload 5, 2, []), (68, .istore_n 3, 1, []), (69, .aload_n 0, 1, []), (70, .getfield 33, 3, []), (73, .iload 6, 2, []), (75, .iaload, 1, []), (76, .istore 4, 2, []), (78, .iinc 5 1, 3, []), (81, .goto (-72), 3, [9]), (84, .iload_n 3, 1, []), (85, .ireturn, 1, [])]
theorem hCX1_mostUrgent : ∀ q ∈ CX1_mostUrgent, chk cX1_mostUrgent q := by decide +kernel
theorem lCX1_mostUrgent : lnk CX1_mostUrgent = true := by decide +kernel
def CX1_nextHead : CL := [(0, .sipush 1000, 3, []), (3, .istore_n 3, 1, []), (4, .iconst 0, 1, []), (5, .istore 4, 2, []), (7, .iload 4, 2, []), (9, .iconst 4, 1, []), (10, .if_icmp .ge 57, 3, [67]), (13, .aload_n 0, 1, []), (14, .getfield 24, 3, []), (17, .iconst 4, 1, []), (18, .iload_n 1, 1, []), (19, .imul, 1, []), (20, .iload 4, 2, []), (22, .iadd, 1, []), (23, .iaload, 1, []), (24, .istore 5, 2, []), (26, .iload 5, 2, []), (28, .ifCond .lt 33, 3, [61]), (31, .aload_n 0, 1, []), (32, .getfield 30, 3, []), (35, .iload 5, 2, []), (37, .iaload, 1, []), (38, .iload_n 2, 1, []), (39, .if_icmp .le 22, 3, [61]), (42, .aload_n 0, 1, []), (43, .getfield 30, 3, []), (46, .iload 5, 2, []), (48, .iaload, 1, []), (49, .iload_n 3, 1, []), (50, .if_icmp .ge 11, 3, [61]), (53, .aload_n 0, 1, []), (54, .getfield 30, 3, []), (57, .iload 5, 2, []), (59, .iaload, 1, []), (60, .istore_n 3, 1, []), (61, .iinc 4 1, 3, []), (64, .goto (-57), 3, [7]), (67, .iload_n 3, 1, []), (68, .ireturn, 1, [])]
theorem hCX1_nextHead : ∀ q ∈ CX1_nextHead, chk cX1_nextHead q := by decide +kernel
theorem lCX1_nextHead : lnk CX1_nextHead = true := by decide +kernel
def CX1_slackOf : CL := [(0, .aload_n 0, 1, []), (1, .getfield 89, 3, []), (4, .aload_n 0, 1, []), (5, .iload_n 1, 1, []), (6, .invokevirtual 86, 3, []), (9, .aload_n 0, 1, []), (10, .getfield 33, 3, []), (13, .iload_n 1, 1, []), (14, .iaload, 1, []), (15, .iadd, 1, []), (16, .isub, 1, []), (17, .ireturn, 1, [])]
theorem hCX1_slackOf : ∀ q ∈ CX1_slackOf, chk cX1_slackOf q := by decide +kernel
theorem lCX1_slackOf : lnk CX1_slackOf = true := by decide +kernel
def CX1_sortAlong : CL := [(0, .aload_n 0, 1, []), (1, .getfield 39, 3, []), (4, .iload_n 1, 1, []), (5, .iaload, 1, []), (6, .aload_n 0, 1, []), (7, .getfield 9, 3, []), (10, .iload_n 1, 1, []), (11, .iaload, 1, []), (12, .if_icmp .ge 105, 3, [117]), (15, .aload_n 0, 1, []), (16, .getfield 92, 3, []), (19, .bipush 16, 2, []), (21, .if_icmp .ge 96, 3, [117]), (24, .iconst 4, 1, []), (25, .iload_n 1, 1, []), (26, .imul, 1, []), (27, .aload_n 0, 1, []), (28, .getfield 39, 3, []), (31, .iload_n 1, 1, []), (32, .iaload, 1, []), (33, .iadd, 1, []), (34, .istore_n 2, 1, []), (35, .aload_n 0, 1, []), (36, .getfield 15, 3, []), (39, .iload_n 2, 1, []), (40, .iaload, 1, []), (41, .istore_n 3, 1, []), (42, .aload_n 0, 1, []), (43, .getfield 27, 3, []), (46, .iload_n 2, 1, []), (47, .iaload, 1, []), (48, .aload_n 0, 1, []), (49, .getfield 42, 3, []), (52, .iload_n 3, 1, []), (53, .iaload, 1, []), (54, .iconst (-1), 1, []), (55, .ixor, 1, []), (56, .iand, 1, []), (57, .ifCond .eq 4, 3, [61]), (60, .return_, 1, []), (61, .aload_n 0, 1, []), (62, .getfield 30, 3, []), (65, .iload_n 2, 1, []), (66, .aload_n 0, 1, []), (67, .iload_n 2, 1, []), (68, .invokevirtual 102, 3, []), (71, .iastore, 1, []), (72, .aload_n 0, 1, []), (73, .getfield 36, 3, []), (76, .aload_n 0, 1, []), (77, .getfield 92, 3, []), (80, .iload_n 2, 1, []), (81, .iastore, 1, []), (82, .aload_n 0, 1, []), (83, .dup, 1, []), (84, .getfield 92, 3, []), (87, .iconst 1, 1, []), (88, .iadd, 1, []), (89, .putfield 92, 3, []), (92, .aload_n 0, 1, []), (93, .getfield 42, 3, []), (96, .iload_n 3, 1, []), (97, .dup2, 1, []), (98, .iaload, 1, []), (99, .iconst 1, 1, []), (100, .iload_n 1, 1, []), (101, .ishl, 1, []), (102, .ior, 1, []), (103, .iastore, 1, []), (104, .aload_n 0, 1, []), (105, .getfield 39, 3, []), (108, .iload_n 1, 1, []), (109, .dup2, 1, []), (110, .iaload, 1, []), (111, .iconst 1, 1, []), (112, .iadd, 1, []), (113, .iastore, 1, []), (114, .goto (-114), 3, [0]), (117, .return_, 1, [])]
theorem hCX1_sortAlong : ∀ q ∈ CX1_sortAlong, chk cX1_sortAlong q := by decide +kernel
theorem lCX1_sortAlong : lnk CX1_sortAlong = true := by decide +kernel
def CX1_tailOf : CL := [(0, .iload_n 1, 1, []), (1, .iconst 4, 1, []), (2, .idiv, 1, []), (3, .istore_n 2, 1, []), (4, .iconst 0, 1, []), (5, .istore_n 3, 1, []), (6, .iload_n 1, 1, []), (7, .iconst 4, 1, []), (8, .irem, 1, []), (9, .iconst 1, 1, []), (10, .iadd, 1, []), (11, .aload_n 0, 1, []), (12, .getfield 9, 3, []), (15, .iload_n 2, 1, []), (16, .iaload, 1, []), (17, .if_icmp .ge 21, 3, [38]), (20, .aload_n 0, 1, []), (21, .getfield 18, 3, []), (24, .iload_n 1, 1, []), (25, .iconst 1, 1, []), (26, .iadd, 1, []), (27, .iaload, 1, []), (28, .aload_n 0, 1, []), (29, .getfield 33, 3, []), (32, .iload_n 1, 1, []), (33, .iconst 1, 1, []), (34, .iadd, 1, []), (35, .iaload, 1, []), (36, .iadd, 1, []), (37, .istore_n 3, 1, []), (38, .iconst 0, 1, []), (39, .istore 4, 2, []), (41, .iload 4, 2, []), (43, .iconst 4, 1, []), (44, .if_icmp .ge 76, 3, [120]), (47, .aload_n 0, 1, []), (48, .getfield 24, 3, []), (51, .iconst 4, 1, []), (52, .aload_n 0, 1, []), (53, .getfield 15, 3, []), (56, .iload_n 1, 1, []), (57, .iaload, 1, []), (58, .imul, 1, []), (59, .iload 4, 2, []), (61, .iadd, 1, []), (62, .iaload, 1, []), (63, .istore 5, 2, []), (65, .iload 5, 2, []), (67, .ifCond .lt 47, 3, [114]), (70, .aload_n 0, 1, []), (71, .getfield 27, 3, []), (74, .iload 5, 2, []), (76, .iaload, 1, []), (77, .iload_n 2, 1, []), (78, .ishr, 1, []), (79, .iconst 1, 1, []), (80, .iand, 1, []), (81, .ifCond .eq 33, 3, [114]), (84, .aload_n 0, 1, []), (85, .getfield 18, 3, []), (88, .iload 5, 2, []), (90, .iaload, 1, []), (91, .aload_n 0, 1, []), (92, .getfield 33, 3, []), (95, .iload 5, 2, []), (97, .iaload, 1, []), (98, .iadd, 1, []), (99, .istore 6, 2, []), (101, .iload 6, 2, []), (103, .iload_n 3, 1, []), (104, .if_icmp .le 8, 3, [112]), (107, .iload 6, 2, []), (109, .goto 4, 3, [113]), (112, .iload_n 3, 1, []), (113, .istore_n 3, 1, []), (114, .iinc 4 1, 3, []), (117, .goto (-76), 3, [41]), (120, .iload_n 3, 1, []), (121, .ireturn, 1, [])]
theorem hCX1_tailOf : ∀ q ∈ CX1_tailOf, chk cX1_tailOf q := by decide +kernel
theorem lCX1_tailOf : lnk CX1_tailOf = true := by decide +kernel
def CX1_undecided : CL := [(0, .iload_n 1, 1, []), (1, .ifCond .lt 29, 3, [30]), (4, .iload_n 2, 1, []), (5, .ifCond .lt 25, 3, [30]), (8, .aload_n 0, 1, []), (9, .iload_n 1, 1, []), (10, .iload_n 2, 1, []), (11, .invokevirtual 82, 3, []), (14, .ifCond .ne 16, 3, [30]), (17, .aload_n 0, 1, []), (18, .iload_n 2, 1, []), (19, .iload_n 1, 1, []), (20, .invokevirtual 82, 3, []), (23, .ifCond .ne 7, 3, [30]), (26, .iconst 1, 1, []), (27, .goto 4, 3, [31]), (30, .iconst 0, 1, []), (31, .ireturn, 1, [])]
theorem hCX1_undecided : ∀ q ∈ CX1_undecided, chk cX1_undecided q := by decide +kernel
theorem lCX1_undecided : lnk CX1_undecided = true := by decide +kernel
def CX1_wayThrough : CL := [(0, .aload_n 0, 1, []), (1, .iload_n 1, 1, []), (2, .invokevirtual 86, 3, []), (5, .aload_n 0, 1, []), (6, .getfield 18, 3, []), (9, .iload_n 2, 1, []), (10, .iaload, 1, []), (11, .iadd, 1, []), (12, .aload_n 0, 1, []), (13, .getfield 33, 3, []), (16, .iload_n 2, 1, []), (17, .iaload, 1, []), (18, .iadd, 1, []), (19, .ireturn, 1, [])]
theorem hCX1_wayThrough : ∀ q ∈ CX1_wayThrough, chk cX1_wayThrough q := by decide +kernel
theorem lCX1_wayThrough : lnk CX1_wayThrough = true := by decide +kernel
def CX2_anotherJobFor : CL := [(0, .aload_n 0, 1, []), (1, .invokevirtual 49, 3, []), (4, .istore_n 2, 1, []), (5, .iload_n 2, 1, []), (6, .ifCond .lt 20, 3, [26]), (9, .iload_n 2, 1, []), (10, .iconst 4, 1, []), (11, .if_icmp .ge 15, 3, [26]), (14, .iload_n 1, 1, []), (15, .iload_n 2, 1, []), (16, .ishr, 1, []), (17, .iconst 1, 1, []), (18, .iand, 1, []), (19, .ifCond .ne 7, 3, [26]), (22, .iconst 1, 1, []), (23, .goto 4, 3, [27]), (26, .iconst 0, 1, []), (27, .ireturn, 1, [])]
theorem hCX2_anotherJobFor : ∀ q ∈ CX2_anotherJobFor, chk cX2_anotherJobFor q := by decide +kernel
theorem lCX2_anotherJobFor : lnk CX2_anotherJobFor = true := by decide +kernel
def CX2_append : CL := [(0, .aload_n 0, 1, []), (1, .getfield 15, 3, []), (4, .bipush 80, 2, []), (6, .if_icmp .ge 23, 3, [29]), (9, .aload_n 0, 1, []), (10, .getfield 9, 3, []), (13, .aload_n 0, 1, []), (14, .getfield 15, 3, []), (17, .iload_n 1, 1, []), (18, .castore, 1, []), (19, .aload_n 0, 1, []), (20, .dup, 1, []), (21, .getfield 15, 3, []), (24, .iconst 1, 1, []), (25, .iadd, 1, []), (26, .putfield 15, 3, []), (29, .return_, 1, [])]
theorem hCX2_append : ∀ q ∈ CX2_append, chk cX2_append q := by decide +kernel
theorem lCX2_append : lnk CX2_append = true := by decide +kernel
def CX2_digit : CL := [(0, .aload_n 0, 1, []), (1, .getfield 22, 3, []), (4, .aload_n 0, 1, []), (5, .getfield 15, 3, []), (8, .if_icmp .ge 40, 3, [48]), (11, .aload_n 0, 1, []), (12, .getfield 22, 3, []), (15, .bipush 80, 2, []), (17, .if_icmp .ge 31, 3, [48]), (20, .aload_n 0, 1, []), (21, .getfield 9, 3, []), (24, .aload_n 0, 1, []), (25, .getfield 22, 3, []), (28, .caload, 1, []), (29, .bipush 48, 2, []), (31, .if_icmp .lt 17, 3, [48]), (34, .aload_n 0, 1, []), (35, .getfield 9, 3, []), (38, .aload_n 0, 1, []), (39, .getfield 22, 3, []), (42, .caload, 1, []), (43, .bipush 57, 2, []), (45, .if_icmp .le 6, 3, [51]), (48, .bipush (-6), 2, []), (50, .ireturn, 1, []), (51, .aload_n 0, 1, []), (52, .getfield 9, 3, []), (55, .aload_n 0, 1, []), (56, .getfield 22, 3, []), (59, .caload, 1, []), (60, .bipush 48, 2, []), (62, .isub, 1, []), (63, .ireturn, 1, [])]
theorem hCX2_digit : ∀ q ∈ CX2_digit, chk cX2_digit q := by decide +kernel
theorem lCX2_digit : lnk CX2_digit = true := by decide +kernel
def CX2_names : CL := [(0, .aload_n 0, 1, []), (1, .getfield 19, 3, []), (4, .iload_n 1, 1, []), (5, .ishr, 1, []), (6, .iconst 1, 1, []), (7, .iand, 1, []), (8, .ifCond .eq 7, 3, [15]), (11, .iconst 1, 1, []), (12, .goto 4, 3, [16]), (15, .iconst 0, 1, []), (16, .ireturn, 1, [])]
theorem hCX2_names : ∀ q ∈ CX2_names, chk cX2_names q := by decide +kernel
theorem lCX2_names : lnk CX2_names = true := by decide +kernel
def CX2_number : CL := [(0, .aload_n 0, 1, []), (1, .invokevirtual 49, 3, []), (4, .istore_n 3, 1, []), (5, .iload_n 3, 1, []), (6, .bipush (-6), 2, []), (8, .if_icmp .eq 13, 3, [21]), (11, .iload_n 3, 1, []), (12, .iload_n 1, 1, []), (13, .if_icmp .lt 8, 3, [21]), (16, .iload_n 3, 1, []), (17, .iload_n 2, 1, []), (18, .if_icmp .le 6, 3, [24]), (21, .bipush (-6), 2, []), (23, .ireturn, 1, []), (24, .aload_n 0, 1, []), (25, .dup, 1, []), (26, .getfield 22, 3, []), (29, .iconst 1, 1, []), (30, .iadd, 1, []), (31, .putfield 22, 3, []), (34, .iload_n 3, 1, []), (35, .ifCond .le 54, 3, [89]), (38, .aload_n 0, 1, []), (39, .getfield 22, 3, []), (42, .aload_n 0, 1, []), (43, .getfield 15, 3, []), (46, .if_icmp .ge 43, 3, [89]), (49, .aload_n 0, 1, []), (50, .invokevirtual 49, 3, []), (53, .bipush (-6), 2, []), (55, .if_icmp .eq 34, 3, [89]), (58, .bipush 10, 2, []), (60, .iload_n 3, 1, []), (61, .imul, 1, []), (62, .aload_n 0, 1, []), (63, .invokevirtual 49, 3, []), (66, .iadd, 1, []), (67, .istore_n 3, 1, []), (68, .iload_n 3, 1, []), (69, .iload_n 2, 1, []), (70, .if_icmp .le 6, 3, [76]), (73, .bipush (-6), 2, []), (75, .ireturn, 1, []), (76, .aload_n 0, 1, []), (77, .dup, 1, []), (78, .getfield 22, 3, []), (81, .iconst 1, 1, []), (82, .iadd, 1, []), (83, .putfield 22, 3, []), (86, .goto (-52), 3, [34]), (89, .iload_n 3, 1, []), (90, .ireturn, 1, [])]
theorem hCX2_number : ∀ q ∈ CX2_number, chk cX2_number q := by decide +kernel
theorem lCX2_number : lnk CX2_number = true := by decide +kernel
def CX2_readJob : CL := [(0, .aload_n 0, 1, []), (1, .bipush 114, 2, []), (3, .invokevirtual 34, 3, []), (6, .ifCond .ne 5, 3, [11]), (9, .iconst 0, 1, []), (10, .ireturn, 1, []), (11, .aload_n 0, 1, []), (12, .iconst 0, 1, []), (13, .bipush 50, 2, []), (15, .invokevirtual 38, 3, []), (18, .istore_n 2, 1, []), (19, .iload_n 2, 1, []), (20, .bipush (-6), 2, []), (22, .if_icmp .eq 12, 3, [34]), (25, .aload_n 0, 1, []), (26, .bipush 100, 2, []), (28, .invokevirtual 34, 3, []), (31, .ifCond .ne 5, 3, [36]), (34, .iconst 0, 1, []), (35, .ireturn, 1, []), (36, .aload_n 0, 1, []), (37, .iconst 0, 1, []), (38, .sipush 200, 3, []), (41, .invokevirtual 38, 3, []), (44, .istore_n 3, 1, []), (45, .iload_n 3, 1, []), (46, .bipush (-6), 2, []), (48, .if_icmp .ne 5, 3, [53]), (51, .iconst 0, 1, []), (52, .ireturn, 1, []), (53, .aload_n 1, 1, []), (54, .iload_n 2, 1, []), (55, .iload_n 3, 1, []), (56, .invokevirtual 42, 3, []), (59, .istore 4, 2, []), (61, .iconst 0, 1, []), (62, .istore 5, 2, []), (64, .iload 4, 2, []), (66, .ifCond .lt 36, 3, [102]), (69, .iload 5, 2, []), (71, .iconst 4, 1, []), (72, .if_icmp .ge 30, 3, [102]), (75, .aload_n 0, 1, []), (76, .bipush 44, 2, []), (78, .invokevirtual 34, 3, []), (81, .ifCond .eq 21, 3, [102]), (84, .aload_n 0, 1, []), (85, .aload_n 1, 1, []), (86, .iload 4, 2, []), (88, .invokevirtual 45, 3, []), (91, .ifCond .ne 5, 3, [96]), (94, .iconst 0, 1, []), (95, .ireturn, 1, []), (96, .iinc 5 1, 3, []), (99, .goto (-35), 3, [64]), (102, .iconst 1, 1, []), (103, .ireturn, 1, [])]
theorem hCX2_readJob : ∀ q ∈ CX2_readJob, chk cX2_readJob q := by decide +kernel
theorem lCX2_readJob : lnk CX2_readJob = true := by decide +kernel
def CX2_readOperation : CL := [(0, .aload_n 0, 1, []), (1, .invokevirtual 49, 3, []), (4, .istore_n 3, 1, []), (5, .iload_n 3, 1, []), (6, .bipush (-6), 2, []), (8, .if_icmp .eq 19, 3, [27]), (11, .iload_n 3, 1, []), (12, .iconst 4, 1, []), (13, .if_icmp .ge 14, 3, [27]), (16, .aload_n 1, 1, []), (17, .iload_n 2, 1, []), (18, .iload_n 3, 1, []), (19, .invokevirtual 53, 3, []), (22, .bipush (-6), 2, []), (24, .if_icmp .eq 5, 3, [29]), (27, .iconst 0, 1, []), (28, .ireturn, 1, []), (29, .aload_n 0, 1, []), (30, .dup, 1, []), (31, .getfield 22, 3, []), (34, .iconst 1, 1, []), (35, .iadd, 1, []), (36, .putfield 22, 3, []), (39, .aload_n 0, 1, []), (40, .bipush 42, 2, []), (42, .invokevirtual 34, 3, []), (45, .ifCond .ne 5, 3, [50]), (48, .iconst 0, 1, []), (49, .ireturn, 1, []), (50, .aload_n 0, 1, []), (51, .iconst 1, 1, []), (52, .bipush 20, 2, []), (54, .invokevirtual 38, 3, []), (57, .istore 4, 2, []), (59, .iload 4, 2, []), (61, .bipush (-6), 2, []), (63, .if_icmp .eq 18, 3, [81]), (66, .aload_n 1, 1, []), (67, .iload_n 2, 1, []), (68, .iload_n 3, 1, []), (69, .iload 4, 2, []), (71, .invokevirtual 56, 3, []), (74, .ifCond .lt 7, 3, [81]), (77, .iconst 1, 1, []), (78, .goto 4, 3, [82]), (81, .iconst 0, 1, []), (82, .ireturn, 1, [])]
theorem hCX2_readOperation : ∀ q ∈ CX2_readOperation, chk cX2_readOperation q := by decide +kernel
theorem lCX2_readOperation : lnk CX2_readOperation = true := by decide +kernel
def CX2_readOrder : CL := [(0, .aload_n 0, 1, []), (1, .invokevirtual 49, 3, []), (4, .istore_n 2, 1, []), (5, .iload_n 2, 1, []), (6, .bipush (-6), 2, []), (8, .if_icmp .eq 16, 3, [24]), (11, .iload_n 2, 1, []), (12, .iconst 4, 1, []), (13, .if_icmp .ge 11, 3, [24]), (16, .aload_n 0, 1, []), (17, .iload_n 2, 1, []), (18, .invokevirtual 63, 3, []), (21, .ifCond .eq 5, 3, [26]), (24, .iconst 0, 1, []), (25, .ireturn, 1, []), (26, .aload_n 0, 1, []), (27, .dup, 1, []), (28, .getfield 22, 3, []), (31, .iconst 1, 1, []), (32, .iadd, 1, []), (33, .putfield 22, 3, []), (36, .aload_n 0, 1, []), (37, .dup, 1, []), (38, .getfield 19, 3, []), (41, .iconst 1, 1, []), (42, .iload_n 2, 1, []), (43, .ishl, 1, []), (44, .ior, 1, []), (45, .putfield 19, 3, []), (48, .aload_n 0, 1, []), (49, .bipush 58, 2, []), (51, .invokevirtual 34, 3, []), (54, .ifCond .ne 5, 3, [59]), (57, .iconst 0, 1, []), (58, .ireturn, 1, []), (59, .iconst 0, 1, []), (60, .istore_n 3, 1, []), (61, .iload_n 3, 1, []), (62, .iconst 4, 1, []), (63, .if_icmp .ge 40, 3, [103]), (66, .aload_n 0, 1, []), (67, .aload_n 1, 1, []), (68, .iload_n 2, 1, []), (69, .invokevirtual 67, 3, []), (72, .invokevirtual 71, 3, []), (75, .ifCond .eq 28, 3, [103]), (78, .aload_n 1, 1, []), (79, .iload_n 2, 1, []), (80, .aload_n 0, 1, []), (81, .invokevirtual 49, 3, []), (84, .invokevirtual 74, 3, []), (87, .aload_n 0, 1, []), (88, .dup, 1, []), (89, .getfield 22, 3, []), (92, .iconst 1, 1, []), (93, .iadd, 1, []), (94, .putfield 22, 3, []), (97, .iinc 3 1, 3, []), (100, .goto (-39), 3, [61]), (103, .iconst 1, 1, []), (104, .ireturn, 1, [])]
theorem hCX2_readOrder : ∀ q ∈ CX2_readOrder, chk cX2_readOrder q := by decide +kernel
theorem lCX2_readOrder : lnk CX2_readOrder = true := by decide +kernel
def CX2_readPlan : CL := [(0, .aload_n 0, 1, []), (1, .iconst 0, 1, []), (2, .putfield 22, 3, []), (5, .aload_n 0, 1, []), (6, .iconst 0, 1, []), (7, .putfield 19, 3, []), (10, .aload_n 1, 1, []), (11, .invokevirtual 25, 3, []), (14, .iconst 1, 1, []), (15, .istore_n 2, 1, []), (16, .iconst 1, 1, []), (17, .istore_n 3, 1, []), (18, .iload_n 2, 1, []), (19, .ifCond .eq 47, 3, [66]), (22, .iload_n 3, 1, []), (23, .iconst 4, 1, []), (24, .if_icmp .gt 42, 3, [66]), (27, .aload_n 0, 1, []), (28, .aload_n 1, 1, []), (29, .invokevirtual 60, 3, []), (32, .ifCond .ne 8, 3, [40]), (35, .aload_n 0, 1, []), (36, .getfield 22, 3, []), (39, .ireturn, 1, []), (40, .iload_n 3, 1, []), (41, .iconst 4, 1, []), (42, .if_icmp .ge 16, 3, [58]), (45, .aload_n 0, 1, []), (46, .bipush 59, 2, []), (48, .invokevirtual 34, 3, []), (51, .ifCond .eq 7, 3, [58]), (54, .iconst 1, 1, []), (55, .goto 4, 3, [59]), (58, .iconst 0, 1, []), (59, .istore_n 2, 1, []), (60, .iinc 3 1, 3, []), (63, .goto (-45), 3, [18]), (66, .aload_n 0, 1, []), (67, .getfield 22, 3, []), (70, .aload_n 0, 1, []), (71, .getfield 15, 3, []), (74, .if_icmp .ne 8, 3, [82]), (77, .bipush (-6), 2, []), (79, .goto 7, 3, [86]), (82, .aload_n 0, 1, []), (83, .getfield 22, 3, []), (86, .ireturn, 1, [])]
theorem hCX2_readPlan : ∀ q ∈ CX2_readPlan, chk cX2_readPlan q := by decide +kernel
theorem lCX2_readPlan : lnk CX2_readPlan = true := by decide +kernel
def CX2_readRoutes : CL := [(0, .aload_n 0, 1, []), (1, .iconst 0, 1, []), (2, .putfield 22, 3, []), (5, .aload_n 1, 1, []), (6, .invokevirtual 25, 3, []), (9, .iconst 1, 1, []), (10, .istore_n 2, 1, []), (11, .iconst 1, 1, []), (12, .istore_n 3, 1, []), (13, .iload_n 2, 1, []), (14, .ifCond .eq 47, 3, [61]), (17, .iload_n 3, 1, []), (18, .iconst 4, 1, []), (19, .if_icmp .gt 42, 3, [61]), (22, .aload_n 0, 1, []), (23, .aload_n 1, 1, []), (24, .invokevirtual 30, 3, []), (27, .ifCond .ne 8, 3, [35]), (30, .aload_n 0, 1, []), (31, .getfield 22, 3, []), (34, .ireturn, 1, []), (35, .iload_n 3, 1, []), (36, .iconst 4, 1, []), (37, .if_icmp .ge 16, 3, [53]), (40, .aload_n 0, 1, []), (41, .bipush 59, 2, []), (43, .invokevirtual 34, 3, []), (46, .ifCond .eq 7, 3, [53]), (49, .iconst 1, 1, []), (50, .goto 4, 3, [54]), (53, .iconst 0, 1, []), (54, .istore_n 2, 1, []), (55, .iinc 3 1, 3, []), (58, .goto (-45), 3, [13]), (61, .aload_n 0, 1, []), (62, .getfield 22, 3, []), (65, .aload_n 0, 1, []), (66, .getfield 15, 3, []), (69, .if_icmp .ne 8, 3, [77]), (72, .bipush (-6), 2, []), (74, .goto 7, 3, [81]), (77, .aload_n 0, 1, []), (78, .getfield 22, 3, []), (81, .ireturn, 1, [])]
theorem hCX2_readRoutes : ∀ q ∈ CX2_readRoutes, chk cX2_readRoutes q := by decide +kernel
theorem lCX2_readRoutes : lnk CX2_readRoutes = true := by decide +kernel
def CX2_take : CL := [(0, .aload_n 0, 1, []), (1, .getfield 22, 3, []), (4, .aload_n 0, 1, []), (5, .getfield 15, 3, []), (8, .if_icmp .ge 25, 3, [33]), (11, .aload_n 0, 1, []), (12, .getfield 22, 3, []), (15, .bipush 80, 2, []), (17, .if_icmp .ge 16, 3, [33]), (20, .aload_n 0, 1, []), (21, .getfield 9, 3, []), (24, .aload_n 0, 1, []), (25, .getfield 22, 3, []), (28, .caload, 1, []), (29, .iload_n 1, 1, []), (30, .if_icmp .eq 5, 3, [35]), (33, .iconst 0, 1, []), (34, .ireturn, 1, []), (35, .aload_n 0, 1, []), (36, .dup, 1, []), (37, .getfield 22, 3, []), (40, .iconst 1, 1, []), (41, .iadd, 1, []), (42, .putfield 22, 3, []), (45, .iconst 1, 1, []), (46, .ireturn, 1, [])]
theorem hCX2_take : ∀ q ∈ CX2_take, chk cX2_take q := by decide +kernel
theorem lCX2_take : lnk CX2_take = true := by decide +kernel
def CX3_blocks : CL := [(0, .iconst 0, 1, []), (1, .istore_n 2, 1, []), (2, .iconst 0, 1, []), (3, .istore_n 3, 1, []), (4, .iload_n 3, 1, []), (5, .aload_n 0, 1, []), (6, .getfield 15, 3, []), (9, .if_icmp .ge 43, 3, [52]), (12, .iload_n 3, 1, []), (13, .ifCond .eq 30, 3, [43]), (16, .aload_n 1, 1, []), (17, .getfield 58, 3, []), (20, .aload_n 0, 1, []), (21, .getfield 9, 3, []), (24, .iload_n 3, 1, []), (25, .iaload, 1, []), (26, .iaload, 1, []), (27, .aload_n 1, 1, []), (28, .getfield 58, 3, []), (31, .aload_n 0, 1, []), (32, .getfield 9, 3, []), (35, .iload_n 3, 1, []), (36, .iconst 1, 1, []), (37, .isub, 1, []), (38, .iaload, 1, []), (39, .iaload, 1, []), (40, .if_icmp .eq 6, 3, [46]), (43, .iinc 2 1, 3, []), (46, .iinc 3 1, 3, []), (49, .goto (-45), 3, [4]), (52, .iload_n 2, 1, []), (53, .ireturn, 1, [])]
theorem hCX3_blocks : ∀ q ∈ CX3_blocks, chk cX3_blocks q := by decide +kernel
theorem lCX3_blocks : lnk CX3_blocks = true := by decide +kernel
def CX3_first : CL := [(0, .iconst 0, 1, []), (1, .istore_n 3, 1, []), (2, .iload_n 3, 1, []), (3, .bipush 16, 2, []), (5, .if_icmp .ge 44, 3, [49]), (8, .aload_n 2, 1, []), (9, .iload_n 3, 1, []), (10, .invokevirtual 27, 3, []), (13, .ifCond .eq 30, 3, [43]), (16, .aload_n 1, 1, []), (17, .iload_n 3, 1, []), (18, .invokevirtual 33, 3, []), (21, .ifCond .ne 22, 3, [43]), (24, .aload_n 1, 1, []), (25, .getfield 39, 3, []), (28, .iload_n 3, 1, []), (29, .iaload, 1, []), (30, .aload_n 2, 1, []), (31, .getfield 42, 3, []), (34, .iload_n 3, 1, []), (35, .iconst 4, 1, []), (36, .idiv, 1, []), (37, .iaload, 1, []), (38, .if_icmp .ne 5, 3, [43]), (41, .iload_n 3, 1, []), (42, .ireturn, 1, []), (43, .iinc 3 1, 3, []), (46, .goto (-44), 3, [2]), (49, .bipush (-6), 2, []), (51, .ireturn, 1, [])]
theorem hCX3_first : ∀ q ∈ CX3_first, chk cX3_first q := by decide +kernel
theorem lCX3_first : lnk CX3_first = true := by decide +kernel
def CX3_goesOn : CL := [(0, .aload_n 1, 1, []), (1, .iload_n 2, 1, []), (2, .invokevirtual 33, 3, []), (5, .ifCond .ne 17, 3, [22]), (8, .aload_n 1, 1, []), (9, .getfield 39, 3, []), (12, .iload_n 2, 1, []), (13, .iaload, 1, []), (14, .iload_n 3, 1, []), (15, .if_icmp .ne 7, 3, [22]), (18, .iconst 1, 1, []), (19, .goto 4, 3, [23]), (22, .iconst 0, 1, []), (23, .ireturn, 1, [])]
theorem hCX3_goesOn : ∀ q ∈ CX3_goesOn, chk cX3_goesOn q := by decide +kernel
theorem lCX3_goesOn : lnk CX3_goesOn = true := by decide +kernel
def CX3_next : CL := [(0, .aload_n 1, 1, []), (1, .iload_n 3, 1, []), (2, .invokevirtual 45, 3, []), (5, .istore 4, 2, []), (7, .iload_n 3, 1, []), (8, .iconst 4, 1, []), (9, .irem, 1, []), (10, .iconst 1, 1, []), (11, .iadd, 1, []), (12, .aload_n 2, 1, []), (13, .getfield 48, 3, []), (16, .iload_n 3, 1, []), (17, .iconst 4, 1, []), (18, .idiv, 1, []), (19, .iaload, 1, []), (20, .if_icmp .ge 20, 3, [40]), (23, .aload_n 0, 1, []), (24, .aload_n 1, 1, []), (25, .iload_n 3, 1, []), (26, .iconst 1, 1, []), (27, .iadd, 1, []), (28, .iload 4, 2, []), (30, .invokevirtual 51, 3, []), (33, .ifCond .eq 7, 3, [40]), (36, .iload_n 3, 1, []), (37, .iconst 1, 1, []), (38, .iadd, 1, []), (39, .ireturn, 1, []), (40, .aload_n 2, 1, []), (41, .iload_n 3, 1, []), (42, .invokevirtual 55, 3, []), (45, .istore 5, 2, []), (47, .iload 5, 2, []), (49, .bipush (-6), 2, []), (51, .if_icmp .eq 20, 3, [71]), (54, .aload_n 0, 1, []), (55, .aload_n 1, 1, []), (56, .iload 5, 2, []), (58, .iload 4, 2, []), (60, .invokevirtual 51, 3, []), (63, .ifCond .eq 8, 3, [71]), (66, .iload 5, 2, []), (68, .goto 5, 3, [73]), (71, .bipush (-6), 2, []), (73, .ireturn, 1, [])]
theorem hCX3_next : ∀ q ∈ CX3_next, chk cX3_next q := by decide +kernel
theorem lCX3_next : lnk CX3_next = true := by decide +kernel
def CX3_placeOf : CL := [(0, .iconst 0, 1, []), (1, .istore_n 2, 1, []), (2, .iload_n 2, 1, []), (3, .aload_n 0, 1, []), (4, .getfield 15, 3, []), (7, .if_icmp .ge 21, 3, [28]), (10, .aload_n 0, 1, []), (11, .getfield 9, 3, []), (14, .iload_n 2, 1, []), (15, .iaload, 1, []), (16, .iload_n 1, 1, []), (17, .if_icmp .ne 5, 3, [22]), (20, .iload_n 2, 1, []), (21, .ireturn, 1, []), (22, .iinc 2 1, 3, []), (25, .goto (-23), 3, [2]), (28, .bipush (-6), 2, []), (30, .ireturn, 1, [])]
theorem hCX3_placeOf : ∀ q ∈ CX3_placeOf, chk cX3_placeOf q := by decide +kernel
theorem lCX3_placeOf : lnk CX3_placeOf = true := by decide +kernel
def CX3_trace : CL := [(0, .aload_n 0, 1, []), (1, .iconst 0, 1, []), (2, .putfield 15, 3, []), (5, .aload_n 0, 1, []), (6, .aload_n 1, 1, []), (7, .aload_n 2, 1, []), (8, .invokevirtual 19, 3, []), (11, .istore_n 3, 1, []), (12, .iload_n 3, 1, []), (13, .bipush (-6), 2, []), (15, .if_icmp .eq 43, 3, [58]), (18, .aload_n 0, 1, []), (19, .getfield 15, 3, []), (22, .bipush 16, 2, []), (24, .if_icmp .ge 34, 3, [58]), (27, .aload_n 0, 1, []), (28, .getfield 9, 3, []), (31, .aload_n 0, 1, []), (32, .getfield 15, 3, []), (35, .iload_n 3, 1, []), (36, .iastore, 1, []), (37, .aload_n 0, 1, []), (38, .dup, 1, []), (39, .getfield 15, 3, []), (42, .iconst 1, 1, []), (43, .iadd, 1, []), (44, .putfield 15, 3, []), (47, .aload_n 0, 1, []), (48, .aload_n 1, 1, []), (49, .aload_n 2, 1, []), (50, .iload_n 3, 1, []), (51, .invokevirtual 23, 3, []), (54, .istore_n 3, 1, []), (55, .goto (-43), 3, [12]), (58, .return_, 1, [])]
theorem hCX3_trace : ∀ q ∈ CX3_trace, chk cX3_trace q := by decide +kernel
theorem lCX3_trace : lnk CX3_trace = true := by decide +kernel
def CX4_complete : CL := [(0, .iload_n 1, 1, []), (1, .bipush 24, 2, []), (3, .if_icmp .gt 14, 3, [17]), (6, .aload_n 0, 1, []), (7, .getfield 12, 3, []), (10, .iload_n 2, 1, []), (11, .invokevirtual 63, 3, []), (14, .ifCond .ne 5, 3, [19]), (17, .iconst 0, 1, []), (18, .ireturn, 1, []), (19, .aload_n 0, 1, []), (20, .getfield 12, 3, []), (23, .invokevirtual 84, 3, []), (26, .istore_n 3, 1, []), (27, .iload_n 3, 1, []), (28, .bipush (-6), 2, []), (30, .if_icmp .ne 19, 3, [49]), (33, .aload_n 0, 1, []), (34, .getfield 12, 3, []), (37, .getfield 40, 3, []), (40, .aload_n 0, 1, []), (41, .getfield 28, 3, []), (44, .invokestatic 43, 3, []), (47, .iconst 1, 1, []), (48, .ireturn, 1, []), (49, .iload_n 3, 1, []), (50, .bipush 16, 2, []), (52, .idiv, 1, []), (53, .istore 4, 2, []), (55, .iload_n 3, 1, []), (56, .bipush 16, 2, []), (58, .irem, 1, []), (59, .istore 5, 2, []), (61, .aload_n 0, 1, []), (62, .getfield 12, 3, []), (65, .getfield 40, 3, []), (68, .aload_n 0, 1, []), (69, .getfield 33, 3, []), (72, .iload_n 1, 1, []), (73, .aaload, 1, []), (74, .invokestatic 43, 3, []), (77, .aload_n 0, 1, []), (78, .getfield 12, 3, []), (81, .iload 4, 2, []), (83, .iload 5, 2, []), (85, .invokevirtual 87, 3, []), (88, .aload_n 0, 1, []), (89, .iload_n 1, 1, []), (90, .iconst 1, 1, []), (91, .iadd, 1, []), (92, .iload_n 2, 1, []), (93, .invokevirtual 59, 3, []), (96, .ifCond .eq 5, 3, [101]), (99, .iconst 1, 1, []), (100, .ireturn, 1, []), (101, .aload_n 0, 1, []), (102, .getfield 33, 3, []), (105, .iload_n 1, 1, []), (106, .aaload, 1, []), (107, .aload_n 0, 1, []), (108, .getfield 12, 3, []), (111, .getfield 40, 3, []), (114, .invokestatic 43, 3, []), (117, .aload_n 0, 1, []), (118, .getfield 12, 3, []), (121, .iload 5, 2, []), (123, .iload 4, 2, []), (125, .invokevirtual 87, 3, []), (128, .aload_n 0, 1, []), (129, .iload_n 1, 1, []), (130, .iconst 1, 1, []), (131, .iadd, 1, []), (132, .iload_n 2, 1, []), (133, .invokevirtual 59, 3, []), (136, .ireturn, 1, [])]
theorem hCX4_complete : ∀ q ∈ CX4_complete, chk cX4_complete q := by decide +kernel
theorem lCX4_complete : lnk CX4_complete = true := by decide +kernel
def CX4_find : CL := [(0, .aload_n 0, 1, []), (1, .getfield 36, 3, []), (4, .ifCond .eq 4, 3, [8]), (7, .return_, 1, []), (8, .aload_n 0, 1, []), (9, .getfield 12, 3, []), (12, .getfield 40, 3, []), (15, .aload_n 0, 1, []), (16, .getfield 22, 3, []), (19, .invokestatic 43, 3, []), (22, .aload_n 0, 1, []), (23, .getfield 12, 3, []), (26, .invokevirtual 47, 3, []), (29, .pop, 1, []), (30, .aload_n 0, 1, []), (31, .aload_n 0, 1, []), (32, .getfield 12, 3, []), (35, .invokevirtual 51, 3, []), (38, .putfield 55, 3, []), (41, .aload_n 0, 1, []), (42, .getfield 55, 3, []), (45, .sipush 1000, 3, []), (48, .if_icmp .ge 42, 3, [90]), (51, .aload_n 0, 1, []), (52, .iconst 0, 1, []), (53, .aload_n 0, 1, []), (54, .getfield 55, 3, []), (57, .invokevirtual 59, 3, []), (60, .ifCond .ne 30, 3, [90]), (63, .aload_n 0, 1, []), (64, .getfield 22, 3, []), (67, .aload_n 0, 1, []), (68, .getfield 12, 3, []), (71, .getfield 40, 3, []), (74, .invokestatic 43, 3, []), (77, .aload_n 0, 1, []), (78, .dup, 1, []), (79, .getfield 55, 3, []), (82, .iconst 1, 1, []), (83, .iadd, 1, []), (84, .putfield 55, 3, []), (87, .goto (-46), 3, [41]), (90, .aload_n 0, 1, []), (91, .getfield 22, 3, []), (94, .aload_n 0, 1, []), (95, .getfield 12, 3, []), (98, .getfield 40, 3, []), (101, .invokestatic 43, 3, []), (104, .aload_n 0, 1, []), (105, .getfield 12, 3, []), (108, .aload_n 0, 1, []), (109, .getfield 55, 3, []), (112, .invokevirtual 63, 3, []), (115, .pop, 1, []), (116, .aload_n 0, 1, []), (117, .getfield 12, 3, []), (120, .getfield 40, 3, []), (123, .aload_n 0, 1, []), (124, .getfield 22, 3, []), (127, .invokestatic 43, 3, []), (130, .iconst 0, 1, []), (131, .istore_n 1, 1, []), (132, .iload_n 1, 1, []), (133, .bipush 16, 2, []), (135, .if_icmp .ge 20, 3, [155]), (138, .aload_n 0, 1, []), (139, .getfield 18, 3, []), (142, .iload_n 1, 1, []), (143, .aload_n 0, 1, []), (144, .iload_n 1, 1, []), (145, .invokevirtual 67, 3, []), (148, .iastore, 1, []), (149, .iinc 1 1, 3, []), (152, .goto (-20), 3, [132]), (155, .aload_n 0, 1, []), (156, .iconst 1, 1, []), (157, .putfield 36, 3, []), (160, .return_, 1, [])]
theorem hCX4_find : ∀ q ∈ CX4_find, chk cX4_find q := by decide +kernel
theorem lCX4_find : lnk CX4_find = true := by decide +kernel
def CX4_jobsLeft : CL := [(0, .iload_n 1, 1, []), (1, .iconst 4, 1, []), (2, .idiv, 1, []), (3, .istore_n 2, 1, []), (4, .aload_n 0, 1, []), (5, .getfield 12, 3, []), (8, .iload_n 2, 1, []), (9, .invokevirtual 81, 3, []), (12, .istore_n 3, 1, []), (13, .iconst 4, 1, []), (14, .iload_n 2, 1, []), (15, .imul, 1, []), (16, .istore 4, 2, []), (18, .iload 4, 2, []), (20, .iload_n 1, 1, []), (21, .if_icmp .ge 33, 3, [54]), (24, .aload_n 0, 1, []), (25, .getfield 18, 3, []), (28, .iload 4, 2, []), (30, .iaload, 1, []), (31, .ifCond .lt 17, 3, [48]), (34, .iload_n 3, 1, []), (35, .iconst 1, 1, []), (36, .aload_n 0, 1, []), (37, .getfield 18, 3, []), (40, .iload 4, 2, []), (42, .iaload, 1, []), (43, .ishl, 1, []), (44, .iconst (-1), 1, []), (45, .ixor, 1, []), (46, .iand, 1, []), (47, .istore_n 3, 1, []), (48, .iinc 4 1, 3, []), (51, .goto (-33), 3, [18]), (54, .iload_n 3, 1, []), (55, .ireturn, 1, [])]
theorem hCX4_jobsLeft : ∀ q ∈ CX4_jobsLeft, chk cX4_jobsLeft q := by decide +kernel
theorem lCX4_jobsLeft : lnk CX4_jobsLeft = true := by decide +kernel
def CX4_settle : CL := [(0, .iload_n 1, 1, []), (1, .iconst 4, 1, []), (2, .idiv, 1, []), (3, .istore_n 2, 1, []), (4, .aload_n 0, 1, []), (5, .iload_n 1, 1, []), (6, .invokevirtual 71, 3, []), (9, .istore_n 3, 1, []), (10, .aload_n 0, 1, []), (11, .getfield 22, 3, []), (14, .aload_n 0, 1, []), (15, .getfield 12, 3, []), (18, .getfield 40, 3, []), (21, .invokestatic 43, 3, []), (24, .iconst 0, 1, []), (25, .istore 4, 2, []), (27, .iload 4, 2, []), (29, .iconst 4, 1, []), (30, .if_icmp .ge 138, 3, [168]), (33, .aload_n 0, 1, []), (34, .getfield 12, 3, []), (37, .getfield 74, 3, []), (40, .iconst 4, 1, []), (41, .iload_n 2, 1, []), (42, .imul, 1, []), (43, .iload 4, 2, []), (45, .iadd, 1, []), (46, .iaload, 1, []), (47, .istore 5, 2, []), (49, .iload 5, 2, []), (51, .ifCond .lt 111, 3, [162]), (54, .iload_n 3, 1, []), (55, .iload 4, 2, []), (57, .ishr, 1, []), (58, .iconst 1, 1, []), (59, .iand, 1, []), (60, .ifCond .eq 102, 3, [162]), (63, .aload_n 0, 1, []), (64, .getfield 22, 3, []), (67, .iload 5, 2, []), (69, .iaload, 1, []), (70, .iload_n 3, 1, []), (71, .iand, 1, []), (72, .ifCond .eq 6, 3, [78]), (75, .goto 87, 3, [162]), (78, .aload_n 0, 1, []), (79, .getfield 12, 3, []), (82, .iload_n 2, 1, []), (83, .iload 4, 2, []), (85, .iload_n 3, 1, []), (86, .iconst 1, 1, []), (87, .iload 4, 2, []), (89, .ishl, 1, []), (90, .iconst (-1), 1, []), (91, .ixor, 1, []), (92, .iand, 1, []), (93, .invokevirtual 77, 3, []), (96, .aload_n 0, 1, []), (97, .getfield 12, 3, []), (100, .getfield 40, 3, []), (103, .aload_n 0, 1, []), (104, .getfield 25, 3, []), (107, .invokestatic 43, 3, []), (110, .aload_n 0, 1, []), (111, .getfield 28, 3, []), (114, .iload 5, 2, []), (116, .iaload, 1, []), (117, .iload_n 3, 1, []), (118, .iand, 1, []), (119, .ifCond .eq 15, 3, [134]), (122, .aload_n 0, 1, []), (123, .iconst 0, 1, []), (124, .aload_n 0, 1, []), (125, .getfield 55, 3, []), (128, .invokevirtual 59, 3, []), (131, .ifCond .eq 17, 3, [148]), (134, .aload_n 0, 1, []), (135, .getfield 25, 3, []), (138, .aload_n 0, 1, []), (139, .getfield 22, 3, []), (142, .invokestatic 43, 3, []), (145, .iload 4, 2, []), (147, .ireturn, 1, []), (148, .aload_n 0, 1, []), (149, .getfield 22, 3, []), (152, .aload_n 0, 1, []), (153, .getfield 12, 3, []), (156, .getfield 40, 3, []), (159, .invokestatic 43, 3, []), (162, .iinc 4 1, 3, []), (165, .goto (-138), 3, [27]), (168, .bipush (-6), 2, []), (170, .ireturn, 1, [])]
theorem hCX4_settle : ∀ q ∈ CX4_settle, chk cX4_settle q := by decide +kernel
theorem lCX4_settle : lnk CX4_settle = true := by decide +kernel
def CX5_addJob : CL := [(0, .aload_n 0, 1, []), (1, .getfield 33, 3, []), (4, .iconst 4, 1, []), (5, .if_icmp .lt 6, 3, [11]), (8, .bipush (-4), 2, []), (10, .ireturn, 1, []), (11, .aload_n 0, 1, []), (12, .getfield 9, 3, []), (15, .aload_n 0, 1, []), (16, .getfield 33, 3, []), (19, .iload_n 1, 1, []), (20, .iastore, 1, []), (21, .aload_n 0, 1, []), (22, .getfield 15, 3, []), (25, .aload_n 0, 1, []), (26, .getfield 33, 3, []), (29, .iload_n 2, 1, []), (30, .iastore, 1, []), (31, .aload_n 0, 1, []), (32, .getfield 18, 3, []), (35, .aload_n 0, 1, []), (36, .getfield 33, 3, []), (39, .iconst 0, 1, []), (40, .iastore, 1, []), (41, .aload_n 0, 1, []), (42, .dup, 1, []), (43, .getfield 33, 3, []), (46, .iconst 1, 1, []), (47, .iadd, 1, []), (48, .putfield 33, 3, []), (51, .aload_n 0, 1, []), (52, .getfield 33, 3, []), (55, .iconst 1, 1, []), (56, .isub, 1, []), (57, .ireturn, 1, [])]
theorem hCX5_addJob : ∀ q ∈ CX5_addJob, chk cX5_addJob q := by decide +kernel
theorem lCX5_addJob : lnk CX5_addJob = true := by decide +kernel
def CX5_addOperation : CL := [(0, .aload_n 0, 1, []), (1, .getfield 18, 3, []), (4, .iload_n 1, 1, []), (5, .iaload, 1, []), (6, .iconst 4, 1, []), (7, .if_icmp .ge 13, 3, [20]), (10, .aload_n 0, 1, []), (11, .getfield 27, 3, []), (14, .iload_n 2, 1, []), (15, .iaload, 1, []), (16, .iconst 4, 1, []), (17, .if_icmp .lt 6, 3, [23]), (20, .bipush (-5), 2, []), (22, .ireturn, 1, []), (23, .iconst 4, 1, []), (24, .iload_n 1, 1, []), (25, .imul, 1, []), (26, .aload_n 0, 1, []), (27, .getfield 18, 3, []), (30, .iload_n 1, 1, []), (31, .iaload, 1, []), (32, .iadd, 1, []), (33, .istore 4, 2, []), (35, .aload_n 0, 1, []), (36, .getfield 21, 3, []), (39, .iload 4, 2, []), (41, .iload_n 2, 1, []), (42, .iastore, 1, []), (43, .aload_n 0, 1, []), (44, .getfield 24, 3, []), (47, .iload 4, 2, []), (49, .iload_n 3, 1, []), (50, .iastore, 1, []), (51, .aload_n 0, 1, []), (52, .getfield 18, 3, []), (55, .iload_n 1, 1, []), (56, .dup2, 1, []), (57, .iaload, 1, []), (58, .iconst 1, 1, []), (59, .iadd, 1, []), (60, .iastore, 1, []), (61, .aload_n 0, 1, []), (62, .iload_n 2, 1, []), (63, .iload_n 1, 1, []), (64, .invokevirtual 41, 3, []), (67, .iload 4, 2, []), (69, .ireturn, 1, [])]
theorem hCX5_addOperation : ∀ q ∈ CX5_addOperation, chk cX5_addOperation q := by decide +kernel
theorem lCX5_addOperation : lnk CX5_addOperation = true := by decide +kernel
def CX5_allSteps : CL := [(0, .iconst 0, 1, []), (1, .istore_n 1, 1, []), (2, .iconst 0, 1, []), (3, .istore_n 2, 1, []), (4, .iload_n 2, 1, []), (5, .aload_n 0, 1, []), (6, .getfield 33, 3, []), (9, .if_icmp .ge 18, 3, [27]), (12, .iload_n 1, 1, []), (13, .aload_n 0, 1, []), (14, .getfield 18, 3, []), (17, .iload_n 2, 1, []), (18, .iaload, 1, []), (19, .iadd, 1, []), (20, .istore_n 1, 1, []), (21, .iinc 2 1, 3, []), (24, .goto (-20), 3, [4]), (27, .iload_n 1, 1, []), (28, .ireturn, 1, [])]
theorem hCX5_allSteps : ∀ q ∈ CX5_allSteps, chk cX5_allSteps q := by decide +kernel
theorem lCX5_allSteps : lnk CX5_allSteps = true := by decide +kernel
def CX5_allWork : CL := [(0, .iconst 0, 1, []), (1, .istore_n 1, 1, []), (2, .iconst 0, 1, []), (3, .istore_n 2, 1, []), (4, .iload_n 2, 1, []), (5, .aload_n 0, 1, []), (6, .getfield 33, 3, []), (9, .if_icmp .ge 17, 3, [26]), (12, .iload_n 1, 1, []), (13, .aload_n 0, 1, []), (14, .iload_n 2, 1, []), (15, .invokevirtual 60, 3, []), (18, .iadd, 1, []), (19, .istore_n 1, 1, []), (20, .iinc 2 1, 3, []), (23, .goto (-19), 3, [4]), (26, .iload_n 1, 1, []), (27, .ireturn, 1, [])]
theorem hCX5_allWork : ∀ q ∈ CX5_allWork, chk cX5_allWork q := by decide +kernel
theorem lCX5_allWork : lnk CX5_allWork = true := by decide +kernel
def CX5_append : CL := [(0, .aload_n 0, 1, []), (1, .getfield 27, 3, []), (4, .iload_n 1, 1, []), (5, .iaload, 1, []), (6, .iconst 4, 1, []), (7, .if_icmp .ge 29, 3, [36]), (10, .aload_n 0, 1, []), (11, .getfield 30, 3, []), (14, .iconst 4, 1, []), (15, .iload_n 1, 1, []), (16, .imul, 1, []), (17, .aload_n 0, 1, []), (18, .getfield 27, 3, []), (21, .iload_n 1, 1, []), (22, .iaload, 1, []), (23, .iadd, 1, []), (24, .iload_n 2, 1, []), (25, .iastore, 1, []), (26, .aload_n 0, 1, []), (27, .getfield 27, 3, []), (30, .iload_n 1, 1, []), (31, .dup2, 1, []), (32, .iaload, 1, []), (33, .iconst 1, 1, []), (34, .iadd, 1, []), (35, .iastore, 1, []), (36, .return_, 1, [])]
theorem hCX5_append : ∀ q ∈ CX5_append, chk cX5_append q := by decide +kernel
theorem lCX5_append : lnk CX5_append = true := by decide +kernel
def CX5_become : CL := [(0, .aload_n 1, 1, []), (1, .ifnonnull 4, 3, [5]), (4, .return_, 1, []), (5, .aload_n 0, 1, []), (6, .aload_n 1, 1, []), (7, .getfield 33, 3, []), (10, .putfield 33, 3, []), (13, .aload_n 1, 1, []), (14, .getfield 9, 3, []), (17, .aload_n 0, 1, []), (18, .getfield 9, 3, []), (21, .invokestatic 37, 3, []), (24, .aload_n 1, 1, []), (25, .getfield 15, 3, []), (28, .aload_n 0, 1, []), (29, .getfield 15, 3, []), (32, .invokestatic 37, 3, []), (35, .aload_n 1, 1, []), (36, .getfield 18, 3, []), (39, .aload_n 0, 1, []), (40, .getfield 18, 3, []), (43, .invokestatic 37, 3, []), (46, .aload_n 1, 1, []), (47, .getfield 21, 3, []), (50, .aload_n 0, 1, []), (51, .getfield 21, 3, []), (54, .invokestatic 37, 3, []), (57, .aload_n 1, 1, []), (58, .getfield 24, 3, []), (61, .aload_n 0, 1, []), (62, .getfield 24, 3, []), (65, .invokestatic 37, 3, []), (68, .aload_n 1, 1, []), (69, .getfield 27, 3, []), (72, .aload_n 0, 1, []), (73, .getfield 27, 3, []), (76, .invokestatic 37, 3, []), (79, .aload_n 1, 1, []), (80, .getfield 30, 3, []), (83, .aload_n 0, 1, []), (84, .getfield 30, 3, []), (87, .invokestatic 37, 3, []), (90, .return_, 1, [])]
theorem hCX5_become : ∀ q ∈ CX5_become, chk cX5_become q := by decide +kernel
theorem lCX5_become : lnk CX5_become = true := by decide +kernel
def CX5_clear : CL := [(0, .aload_n 0, 1, []), (1, .iconst 0, 1, []), (2, .putfield 33, 3, []), (5, .iconst 0, 1, []), (6, .istore_n 1, 1, []), (7, .iload_n 1, 1, []), (8, .iconst 4, 1, []), (9, .if_icmp .ge 16, 3, [25]), (12, .aload_n 0, 1, []), (13, .getfield 18, 3, []), (16, .iload_n 1, 1, []), (17, .iconst 0, 1, []), (18, .iastore, 1, []), (19, .iinc 1 1, 3, []), (22, .goto (-15), 3, [7]), (25, .iconst 0, 1, []), (26, .istore_n 1, 1, []), (27, .iload_n 1, 1, []), (28, .iconst 4, 1, []), (29, .if_icmp .ge 16, 3, [45]), (32, .aload_n 0, 1, []), (33, .getfield 27, 3, []), (36, .iload_n 1, 1, []), (37, .iconst 0, 1, []), (38, .iastore, 1, []), (39, .iinc 1 1, 3, []), (42, .goto (-15), 3, [27]), (45, .return_, 1, [])]
theorem hCX5_clear : ∀ q ∈ CX5_clear, chk cX5_clear q := by decide +kernel
theorem lCX5_clear : lnk CX5_clear = true := by decide +kernel
def CX5_exchange : CL := [(0, .iload_n 2, 1, []), (1, .ifCond .lt 15, 3, [16]), (4, .iload_n 2, 1, []), (5, .aload_n 0, 1, []), (6, .getfield 27, 3, []), (9, .iload_n 1, 1, []), (10, .iaload, 1, []), (11, .iconst 1, 1, []), (12, .isub, 1, []), (13, .if_icmp .lt 4, 3, [17]), (16, .return_, 1, []), (17, .iconst 4, 1, []), (18, .iload_n 1, 1, []), (19, .imul, 1, []), (20, .iload_n 2, 1, []), (21, .iadd, 1, []), (22, .istore_n 3, 1, []), (23, .aload_n 0, 1, []), (24, .getfield 30, 3, []), (27, .iload_n 3, 1, []), (28, .iaload, 1, []), (29, .istore 4, 2, []), (31, .aload_n 0, 1, []), (32, .getfield 30, 3, []), (35, .iload_n 3, 1, []), (36, .aload_n 0, 1, []), (37, .getfield 30, 3, []), (40, .iload_n 3, 1, []), (41, .iconst 1, 1, []), (42, .iadd, 1, []), (43, .iaload, 1, []), (44, .iastore, 1, []), (45, .aload_n 0, 1, []), (46, .getfield 30, 3, []), (49, .iload_n 3, 1, []), (50, .iconst 1, 1, []), (51, .iadd, 1, []), (52, .iload 4, 2, []), (54, .iastore, 1, []), (55, .return_, 1, [])]
theorem hCX5_exchange : ∀ q ∈ CX5_exchange, chk cX5_exchange q := by decide +kernel
theorem lCX5_exchange : lnk CX5_exchange = true := by decide +kernel
def CX5_hasJob : CL := [(0, .iload_n 1, 1, []), (1, .ifCond .lt 15, 3, [16]), (4, .iload_n 1, 1, []), (5, .aload_n 0, 1, []), (6, .getfield 33, 3, []), (9, .if_icmp .ge 7, 3, [16]), (12, .iconst 1, 1, []), (13, .goto 4, 3, [17]), (16, .iconst 0, 1, []), (17, .ireturn, 1, [])]
theorem hCX5_hasJob : ∀ q ∈ CX5_hasJob, chk cX5_hasJob q := by decide +kernel
theorem lCX5_hasJob : lnk CX5_hasJob = true := by decide +kernel
def CX5_hasOperation : CL := [(0, .iload_n 1, 1, []), (1, .ifCond .lt 27, 3, [28]), (4, .iload_n 1, 1, []), (5, .bipush 16, 2, []), (7, .if_icmp .ge 21, 3, [28]), (10, .iload_n 1, 1, []), (11, .iconst 4, 1, []), (12, .irem, 1, []), (13, .aload_n 0, 1, []), (14, .getfield 18, 3, []), (17, .iload_n 1, 1, []), (18, .iconst 4, 1, []), (19, .idiv, 1, []), (20, .iaload, 1, []), (21, .if_icmp .ge 7, 3, [28]), (24, .iconst 1, 1, []), (25, .goto 4, 3, [29]), (28, .iconst 0, 1, []), (29, .ireturn, 1, [])]
theorem hCX5_hasOperation : ∀ q ∈ CX5_hasOperation, chk cX5_hasOperation q := by decide +kernel
theorem lCX5_hasOperation : lnk CX5_hasOperation = true := by decide +kernel
def CX5_hasPlace : CL := [(0, .iload_n 2, 1, []), (1, .ifCond .lt 17, 3, [18]), (4, .iload_n 2, 1, []), (5, .aload_n 0, 1, []), (6, .getfield 27, 3, []), (9, .iload_n 1, 1, []), (10, .iaload, 1, []), (11, .if_icmp .ge 7, 3, [18]), (14, .iconst 1, 1, []), (15, .goto 4, 3, [19]), (18, .iconst 0, 1, []), (19, .ireturn, 1, [])]
theorem hCX5_hasPlace : ∀ q ∈ CX5_hasPlace, chk cX5_hasPlace q := by decide +kernel
theorem lCX5_hasPlace : lnk CX5_hasPlace = true := by decide +kernel
def CX5_jobsInOrder : CL := [(0, .iconst 0, 1, []), (1, .istore_n 2, 1, []), (2, .iconst 0, 1, []), (3, .istore_n 3, 1, []), (4, .iload_n 3, 1, []), (5, .aload_n 0, 1, []), (6, .getfield 27, 3, []), (9, .iload_n 1, 1, []), (10, .iaload, 1, []), (11, .if_icmp .ge 24, 3, [35]), (14, .iload_n 2, 1, []), (15, .iconst 1, 1, []), (16, .aload_n 0, 1, []), (17, .getfield 30, 3, []), (20, .iconst 4, 1, []), (21, .iload_n 1, 1, []), (22, .imul, 1, []), (23, .iload_n 3, 1, []), (24, .iadd, 1, []), (25, .iaload, 1, []), (26, .ishl, 1, []), (27, .ior, 1, []), (28, .istore_n 2, 1, []), (29, .iinc 3 1, 3, []), (32, .goto (-28), 3, [4]), (35, .iload_n 2, 1, []), (36, .ireturn, 1, [])]
theorem hCX5_jobsInOrder : ∀ q ∈ CX5_jobsInOrder, chk cX5_jobsInOrder q := by decide +kernel
theorem lCX5_jobsInOrder : lnk CX5_jobsInOrder = true := by decide +kernel
def CX5_nextOnMachine : CL := [(0, .aload_n 0, 1, []), (1, .iload_n 1, 1, []), (2, .invokevirtual 53, 3, []), (5, .istore_n 2, 1, []), (6, .iload_n 2, 1, []), (7, .bipush (-6), 2, []), (9, .if_icmp .ne 8, 3, [17]), (12, .bipush (-6), 2, []), (14, .goto 16, 3, [30]), (17, .aload_n 0, 1, []), (18, .aload_n 0, 1, []), (19, .getfield 21, 3, []), (22, .iload_n 1, 1, []), (23, .iaload, 1, []), (24, .iload_n 2, 1, []), (25, .iconst 1, 1, []), (26, .iadd, 1, []), (27, .invokevirtual 57, 3, []), (30, .ireturn, 1, [])]
theorem hCX5_nextOnMachine : ∀ q ∈ CX5_nextOnMachine, chk cX5_nextOnMachine q := by decide +kernel
theorem lCX5_nextOnMachine : lnk CX5_nextOnMachine = true := by decide +kernel
def CX5_operationAt : CL := [(0, .aload_n 0, 1, []), (1, .iload_n 1, 1, []), (2, .iload_n 2, 1, []), (3, .invokevirtual 45, 3, []), (6, .ifCond .eq 21, 3, [27]), (9, .aload_n 0, 1, []), (10, .aload_n 0, 1, []), (11, .getfield 30, 3, []), (14, .iconst 4, 1, []), (15, .iload_n 1, 1, []), (16, .imul, 1, []), (17, .iload_n 2, 1, []), (18, .iadd, 1, []), (19, .iaload, 1, []), (20, .iload_n 1, 1, []), (21, .invokevirtual 49, 3, []), (24, .goto 5, 3, [29]), (27, .bipush (-6), 2, []), (29, .ireturn, 1, [])]
theorem hCX5_operationAt : ∀ q ∈ CX5_operationAt, chk cX5_operationAt q := by decide +kernel
theorem lCX5_operationAt : lnk CX5_operationAt = true := by decide +kernel
def CX5_operationOf : CL := [(0, .iconst 0, 1, []), (1, .istore_n 3, 1, []), (2, .iload_n 3, 1, []), (3, .aload_n 0, 1, []), (4, .getfield 18, 3, []), (7, .iload_n 1, 1, []), (8, .iaload, 1, []), (9, .if_icmp .ge 29, 3, [38]), (12, .aload_n 0, 1, []), (13, .getfield 21, 3, []), (16, .iconst 4, 1, []), (17, .iload_n 1, 1, []), (18, .imul, 1, []), (19, .iload_n 3, 1, []), (20, .iadd, 1, []), (21, .iaload, 1, []), (22, .iload_n 2, 1, []), (23, .if_icmp .ne 9, 3, [32]), (26, .iconst 4, 1, []), (27, .iload_n 1, 1, []), (28, .imul, 1, []), (29, .iload_n 3, 1, []), (30, .iadd, 1, []), (31, .ireturn, 1, []), (32, .iinc 3 1, 3, []), (35, .goto (-33), 3, [2]), (38, .bipush (-6), 2, []), (40, .ireturn, 1, [])]
theorem hCX5_operationOf : ∀ q ∈ CX5_operationOf, chk cX5_operationOf q := by decide +kernel
theorem lCX5_operationOf : lnk CX5_operationOf = true := by decide +kernel
def CX5_placeOf : CL := [(0, .aload_n 0, 1, []), (1, .getfield 21, 3, []), (4, .iload_n 1, 1, []), (5, .iaload, 1, []), (6, .istore_n 2, 1, []), (7, .iconst 0, 1, []), (8, .istore_n 3, 1, []), (9, .iload_n 3, 1, []), (10, .aload_n 0, 1, []), (11, .getfield 27, 3, []), (14, .iload_n 2, 1, []), (15, .iaload, 1, []), (16, .if_icmp .ge 27, 3, [43]), (19, .aload_n 0, 1, []), (20, .getfield 30, 3, []), (23, .iconst 4, 1, []), (24, .iload_n 2, 1, []), (25, .imul, 1, []), (26, .iload_n 3, 1, []), (27, .iadd, 1, []), (28, .iaload, 1, []), (29, .iload_n 1, 1, []), (30, .iconst 4, 1, []), (31, .idiv, 1, []), (32, .if_icmp .ne 5, 3, [37]), (35, .iload_n 3, 1, []), (36, .ireturn, 1, []), (37, .iinc 3 1, 3, []), (40, .goto (-31), 3, [9]), (43, .bipush (-6), 2, []), (45, .ireturn, 1, [])]
theorem hCX5_placeOf : ∀ q ∈ CX5_placeOf, chk cX5_placeOf q := by decide +kernel
theorem lCX5_placeOf : lnk CX5_placeOf = true := by decide +kernel
def CX5_takeOrder : CL := [(0, .aload_n 0, 1, []), (1, .getfield 27, 3, []), (4, .iload_n 2, 1, []), (5, .iconst 0, 1, []), (6, .iastore, 1, []), (7, .iconst 0, 1, []), (8, .istore_n 3, 1, []), (9, .iload_n 3, 1, []), (10, .aload_n 1, 1, []), (11, .getfield 27, 3, []), (14, .iload_n 2, 1, []), (15, .iaload, 1, []), (16, .if_icmp .ge 24, 3, [40]), (19, .aload_n 0, 1, []), (20, .iload_n 2, 1, []), (21, .aload_n 1, 1, []), (22, .getfield 30, 3, []), (25, .iconst 4, 1, []), (26, .iload_n 2, 1, []), (27, .imul, 1, []), (28, .iload_n 3, 1, []), (29, .iadd, 1, []), (30, .iaload, 1, []), (31, .invokevirtual 41, 3, []), (34, .iinc 3 1, 3, []), (37, .goto (-28), 3, [9]), (40, .return_, 1, [])]
theorem hCX5_takeOrder : ∀ q ∈ CX5_takeOrder, chk cX5_takeOrder q := by decide +kernel
theorem lCX5_takeOrder : lnk CX5_takeOrder = true := by decide +kernel
def CX5_work : CL := [(0, .iconst 0, 1, []), (1, .istore_n 2, 1, []), (2, .iconst 0, 1, []), (3, .istore_n 3, 1, []), (4, .iload_n 3, 1, []), (5, .aload_n 0, 1, []), (6, .getfield 18, 3, []), (9, .iload_n 1, 1, []), (10, .iaload, 1, []), (11, .if_icmp .ge 22, 3, [33]), (14, .iload_n 2, 1, []), (15, .aload_n 0, 1, []), (16, .getfield 24, 3, []), (19, .iconst 4, 1, []), (20, .iload_n 1, 1, []), (21, .imul, 1, []), (22, .iload_n 3, 1, []), (23, .iadd, 1, []), (24, .iaload, 1, []), (25, .iadd, 1, []), (26, .istore_n 2, 1, []), (27, .iinc 3 1, 3, []), (30, .goto (-26), 3, [4]), (33, .iload_n 2, 1, []), (34, .ireturn, 1, [])]
theorem hCX5_work : ∀ q ∈ CX5_work, chk cX5_work q := by decide +kernel
theorem lCX5_work : lnk CX5_work = true := by decide +kernel
def CX6_about : CL := [(0, .aload_n 0, 1, []), (1, .getfield 10, 3, []), (4, .iload_n 1, 1, []), (5, .invokevirtual 97, 3, []), (8, .ifCond .ne 5, 3, [13]), (11, .iconst (-1), 1, []), (12, .ireturn, 1, []), (13, .iload_n 2, 1, []), (14, .iconst 0, 1, []), (15, .bipush 7, 2, []), (17, .invokestatic 68, 3, []), (20, .ifCond .ne 6, 3, [26]), (23, .bipush (-2), 2, []), (25, .ireturn, 1, []), (26, .iload_n 2, 1, []), (27, .ifCond .ne 13, 3, [40]), (30, .aload_n 0, 1, []), (31, .getfield 10, 3, []), (34, .getfield 147, 3, []), (37, .iload_n 1, 1, []), (38, .iaload, 1, []), (39, .ireturn, 1, []), (40, .iload_n 2, 1, []), (41, .iconst 1, 1, []), (42, .if_icmp .ne 13, 3, [55]), (45, .aload_n 0, 1, []), (46, .getfield 10, 3, []), (49, .getfield 100, 3, []), (52, .iload_n 1, 1, []), (53, .iaload, 1, []), (54, .ireturn, 1, []), (55, .iload_n 2, 1, []), (56, .iconst 2, 1, []), (57, .if_icmp .ne 12, 3, [69]), (60, .aload_n 0, 1, []), (61, .getfield 10, 3, []), (64, .iload_n 1, 1, []), (65, .invokevirtual 154, 3, []), (68, .ireturn, 1, []), (69, .aload_n 0, 1, []), (70, .invokevirtual 111, 3, []), (73, .ifCond .eq 12, 3, [85]), (76, .aload_n 0, 1, []), (77, .iload_n 1, 1, []), (78, .iload_n 2, 1, []), (79, .invokevirtual 157, 3, []), (82, .goto 5, 3, [87]), (85, .bipush (-6), 2, []), (87, .ireturn, 1, [])]
theorem hCX6_about : ∀ q ∈ CX6_about, chk cX6_about q := by decide +kernel
theorem lCX6_about : lnk CX6_about = true := by decide +kernel
def CX6_best : CL := [(0, .iload_n 1, 1, []), (1, .iconst (-1), 1, []), (2, .iconst 3, 1, []), (3, .invokestatic 68, 3, []), (6, .ifCond .ne 6, 3, [12]), (9, .bipush (-2), 2, []), (11, .ireturn, 1, []), (12, .iload_n 1, 1, []), (13, .ifCond .lt 18, 3, [31]), (16, .aload_n 0, 1, []), (17, .getfield 10, 3, []), (20, .iload_n 1, 1, []), (21, .iload_n 2, 1, []), (22, .invokevirtual 160, 3, []), (25, .ifCond .ne 6, 3, [31]), (28, .bipush (-6), 2, []), (30, .ireturn, 1, []), (31, .aload_n 0, 1, []), (32, .getfield 61, 3, []), (35, .getfield 115, 3, []), (38, .aload_n 0, 1, []), (39, .getfield 10, 3, []), (42, .invokevirtual 118, 3, []), (45, .aload_n 0, 1, []), (46, .getfield 61, 3, []), (49, .invokevirtual 122, 3, []), (52, .iload_n 1, 1, []), (53, .ifCond .ge 13, 3, [66]), (56, .aload_n 0, 1, []), (57, .getfield 61, 3, []), (60, .getfield 135, 3, []), (63, .goto 16, 3, [79]), (66, .aload_n 0, 1, []), (67, .getfield 61, 3, []), (70, .getfield 125, 3, []), (73, .iconst 4, 1, []), (74, .iload_n 1, 1, []), (75, .imul, 1, []), (76, .iload_n 2, 1, []), (77, .iadd, 1, []), (78, .iaload, 1, []), (79, .ireturn, 1, [])]
theorem hCX6_best : ∀ q ∈ CX6_best, chk cX6_best q := by decide +kernel
theorem lCX6_best : lnk CX6_best = true := by decide +kernel
def CX6_bound : CL := [(0, .iload_n 1, 1, []), (1, .iconst (-1), 1, []), (2, .iconst 3, 1, []), (3, .invokestatic 68, 3, []), (6, .ifCond .ne 6, 3, [12]), (9, .bipush (-2), 2, []), (11, .ireturn, 1, []), (12, .aload_n 0, 1, []), (13, .getfield 55, 3, []), (16, .aload_n 0, 1, []), (17, .getfield 10, 3, []), (20, .invokevirtual 118, 3, []), (23, .aload_n 0, 1, []), (24, .getfield 55, 3, []), (27, .invokevirtual 198, 3, []), (30, .pop, 1, []), (31, .iload_n 1, 1, []), (32, .ifCond .ge 13, 3, [45]), (35, .aload_n 0, 1, []), (36, .getfield 55, 3, []), (39, .invokevirtual 201, 3, []), (42, .goto 11, 3, [53]), (45, .aload_n 0, 1, []), (46, .getfield 55, 3, []), (49, .iload_n 1, 1, []), (50, .invokevirtual 204, 3, []), (53, .ireturn, 1, [])]
theorem hCX6_bound : ∀ q ∈ CX6_bound, chk cX6_bound q := by decide +kernel
theorem lCX6_bound : lnk CX6_bound = true := by decide +kernel
def CX6_breakdown : CL := [(0, .iload_n 1, 1, []), (1, .invokestatic 87, 3, []), (4, .ifCond .eq 36, 3, [40]), (7, .iload_n 2, 1, []), (8, .iconst 0, 1, []), (9, .sipush 200, 3, []), (12, .invokestatic 68, 3, []), (15, .ifCond .eq 25, 3, [40]), (18, .iload_n 3, 1, []), (19, .iload_n 2, 1, []), (20, .sipush 400, 3, []), (23, .invokestatic 68, 3, []), (26, .ifCond .eq 14, 3, [40]), (29, .iload 4, 2, []), (31, .iconst (-1), 1, []), (32, .bipush 15, 2, []), (34, .invokestatic 68, 3, []), (37, .ifCond .ne 6, 3, [43]), (40, .bipush (-2), 2, []), (42, .ireturn, 1, []), (43, .aload_n 0, 1, []), (44, .invokevirtual 111, 3, []), (47, .ifCond .ne 6, 3, [53]), (50, .bipush (-5), 2, []), (52, .ireturn, 1, []), (53, .iload 4, 2, []), (55, .ifCond .lt 24, 3, [79]), (58, .aload_n 0, 1, []), (59, .getfield 10, 3, []), (62, .iload 4, 2, []), (64, .iconst 4, 1, []), (65, .idiv, 1, []), (66, .iload 4, 2, []), (68, .iconst 4, 1, []), (69, .irem, 1, []), (70, .invokevirtual 160, 3, []), (73, .ifCond .ne 6, 3, [79]), (76, .bipush (-6), 2, []), (78, .ireturn, 1, []), (79, .aload_n 0, 1, []), (80, .iload_n 1, 1, []), (81, .iload_n 2, 1, []), (82, .iload_n 3, 1, []), (83, .invokevirtual 216, 3, []), (86, .aload_n 0, 1, []), (87, .getfield 65, 3, []), (90, .invokevirtual 122, 3, []), (93, .iload 4, 2, []), (95, .ifCond .ge 13, 3, [108]), (98, .aload_n 0, 1, []), (99, .getfield 65, 3, []), (102, .getfield 135, 3, []), (105, .goto 13, 3, [118]), (108, .aload_n 0, 1, []), (109, .getfield 65, 3, []), (112, .getfield 125, 3, []), (115, .iload 4, 2, []), (117, .iaload, 1, []), (118, .ireturn, 1, [])]
theorem hCX6_breakdown : ∀ q ∈ CX6_breakdown, chk cX6_breakdown q := by decide +kernel
theorem lCX6_breakdown : lnk CX6_breakdown = true := by decide +kernel
def CX6_change : CL := [(0, .aload_n 0, 1, []), (1, .getfield 10, 3, []), (4, .iload_n 1, 1, []), (5, .invokevirtual 97, 3, []), (8, .ifCond .ne 5, 3, [13]), (11, .iconst (-1), 1, []), (12, .ireturn, 1, []), (13, .iload_n 2, 1, []), (14, .iconst 1, 1, []), (15, .bipush 20, 2, []), (17, .invokestatic 68, 3, []), (20, .ifCond .ne 6, 3, [26]), (23, .bipush (-2), 2, []), (25, .ireturn, 1, []), (26, .aload_n 0, 1, []), (27, .invokevirtual 76, 3, []), (30, .aload_n 0, 1, []), (31, .getfield 10, 3, []), (34, .getfield 100, 3, []), (37, .iload_n 1, 1, []), (38, .iaload, 1, []), (39, .istore_n 3, 1, []), (40, .aload_n 0, 1, []), (41, .getfield 10, 3, []), (44, .getfield 100, 3, []), (47, .iload_n 1, 1, []), (48, .iload_n 2, 1, []), (49, .iastore, 1, []), (50, .iload_n 3, 1, []), (51, .ireturn, 1, [])]
theorem hCX6_change : ∀ q ∈ CX6_change, chk cX6_change q := by decide +kernel
theorem lCX6_change : lnk CX6_change = true := by decide +kernel
def CX6_copyRow : CL := [(0, .iconst 0, 1, []), (1, .istore_n 2, 1, []), (2, .iload_n 2, 1, []), (3, .aload_n 0, 1, []), (4, .arraylength, 1, []), (5, .if_icmp .ge 21, 3, [26]), (8, .iload_n 2, 1, []), (9, .aload_n 1, 1, []), (10, .arraylength, 1, []), (11, .if_icmp .ge 15, 3, [26]), (14, .aload_n 1, 1, []), (15, .iload_n 2, 1, []), (16, .aload_n 0, 1, []), (17, .iload_n 2, 1, []), (18, .iaload, 1, []), (19, .iastore, 1, []), (20, .iinc 2 1, 3, []), (23, .goto (-21), 3, [2]), (26, .return_, 1, [])]
theorem hCX6_copyRow : ∀ q ∈ CX6_copyRow, chk cX6_copyRow q := by decide +kernel
theorem lCX6_copyRow : lnk CX6_copyRow = true := by decide +kernel
def CX6_count : CL := [(0, .iload_n 1, 1, []), (1, .iconst 0, 1, []), (2, .bipush 9, 2, []), (4, .invokestatic 68, 3, []), (7, .ifCond .ne 6, 3, [13]), (10, .bipush (-2), 2, []), (12, .ireturn, 1, []), (13, .iload_n 1, 1, []), (14, .tableswitch 107 0 9 #[54, 62, 70, 107, 107, 107, 107, 78, 91, 99], 54, [121, 68, 76, 84, 121, 121, 121, 121, 92, 105, 113]), (68, .aload_n 0, 1, []), (69, .getfield 10, 3, []), (72, .getfield 72, 3, []), (75, .ireturn, 1, []), (76, .aload_n 0, 1, []), (77, .getfield 10, 3, []), (80, .invokevirtual 182, 3, []), (83, .ireturn, 1, []), (84, .aload_n 0, 1, []), (85, .getfield 10, 3, []), (88, .invokevirtual 186, 3, []), (91, .ireturn, 1, []), (92, .aload_n 0, 1, []), (93, .invokevirtual 111, 3, []), (96, .ifCond .eq 7, 3, [103]), (99, .iconst 1, 1, []), (100, .goto 4, 3, [104]), (103, .iconst 0, 1, []), (104, .ireturn, 1, []), (105, .aload_n 0, 1, []), (106, .getfield 37, 3, []), (109, .getfield 189, 3, []), (112, .ireturn, 1, []), (113, .aload_n 0, 1, []), (114, .getfield 22, 3, []), (117, .getfield 192, 3, []), (120, .ireturn, 1, []), (121, .aload_n 0, 1, []), (122, .invokevirtual 111, 3, []), (125, .ifCond .eq 11, 3, [136]), (128, .aload_n 0, 1, []), (129, .iload_n 1, 1, []), (130, .invokevirtual 195, 3, []), (133, .goto 5, 3, [138]), (136, .bipush (-6), 2, []), (138, .ireturn, 1, [])]
theorem hCX6_count : ∀ q ∈ CX6_count, chk cX6_count q := by decide +kernel
theorem lCX6_count : lnk CX6_count = true := by decide +kernel
def CX6_endOfJob : CL := [(0, .aload_n 0, 1, []), (1, .getfield 10, 3, []), (4, .getfield 170, 3, []), (7, .iload_n 1, 1, []), (8, .iaload, 1, []), (9, .istore_n 2, 1, []), (10, .iload_n 2, 1, []), (11, .ifCond .le 20, 3, [31]), (14, .aload_n 0, 1, []), (15, .getfield 44, 3, []), (18, .iconst 4, 1, []), (19, .iload_n 1, 1, []), (20, .imul, 1, []), (21, .iload_n 2, 1, []), (22, .iadd, 1, []), (23, .iconst 1, 1, []), (24, .isub, 1, []), (25, .invokevirtual 297, 3, []), (28, .goto 12, 3, [40]), (31, .aload_n 0, 1, []), (32, .getfield 10, 3, []), (35, .getfield 164, 3, []), (38, .iload_n 1, 1, []), (39, .iaload, 1, []), (40, .ireturn, 1, [])]
theorem hCX6_endOfJob : ∀ q ∈ CX6_endOfJob, chk cX6_endOfJob q := by decide +kernel
theorem lCX6_endOfJob : lnk CX6_endOfJob = true := by decide +kernel
def CX6_fault : CL := [(0, .iload_n 1, 1, []), (1, .ifCond .ne 15, 3, [16]), (4, .aload_n 0, 1, []), (5, .getfield 37, 3, []), (8, .aload_n 0, 1, []), (9, .getfield 16, 3, []), (12, .invokevirtual 230, 3, []), (15, .ireturn, 1, []), (16, .iload_n 1, 1, []), (17, .iconst 1, 1, []), (18, .if_icmp .ne 17, 3, [35]), (21, .aload_n 0, 1, []), (22, .getfield 37, 3, []), (25, .aload_n 0, 1, []), (26, .getfield 16, 3, []), (29, .invokevirtual 234, 3, []), (32, .goto 5, 3, [37]), (35, .bipush (-2), 2, []), (37, .ireturn, 1, [])]
theorem hCX6_fault : ∀ q ∈ CX6_fault, chk cX6_fault q := by decide +kernel
theorem lCX6_fault : lnk CX6_fault = true := by decide +kernel
def CX6_forced : CL := [(0, .iload_n 1, 1, []), (1, .iconst 0, 1, []), (2, .sipush 500, 3, []), (5, .invokestatic 68, 3, []), (8, .ifCond .ne 6, 3, [14]), (11, .bipush (-2), 2, []), (13, .ireturn, 1, []), (14, .aload_n 0, 1, []), (15, .getfield 55, 3, []), (18, .aload_n 0, 1, []), (19, .getfield 10, 3, []), (22, .invokevirtual 118, 3, []), (25, .aload_n 0, 1, []), (26, .getfield 55, 3, []), (29, .iload_n 1, 1, []), (30, .invokevirtual 207, 3, []), (33, .ifCond .eq 13, 3, [46]), (36, .aload_n 0, 1, []), (37, .getfield 55, 3, []), (40, .invokevirtual 210, 3, []), (43, .goto 5, 3, [48]), (46, .bipush (-6), 2, []), (48, .ireturn, 1, [])]
theorem hCX6_forced : ∀ q ∈ CX6_forced, chk cX6_forced q := by decide +kernel
theorem lCX6_forced : lnk CX6_forced = true := by decide +kernel
def CX6_forgetAnswers : CL := [(0, .aload_n 0, 1, []), (1, .iconst 0, 1, []), (2, .putfield 258, 3, []), (5, .aload_n 0, 1, []), (6, .getfield 61, 3, []), (9, .iconst 0, 1, []), (10, .putfield 262, 3, []), (13, .aload_n 0, 1, []), (14, .getfield 65, 3, []), (17, .iconst 0, 1, []), (18, .putfield 262, 3, []), (21, .return_, 1, [])]
theorem hCX6_forgetAnswers : ∀ q ∈ CX6_forgetAnswers, chk cX6_forgetAnswers q := by decide +kernel
theorem lCX6_forgetAnswers : lnk CX6_forgetAnswers = true := by decide +kernel
def CX6_greatestLateness : CL := [(0, .iconst 0, 1, []), (1, .istore_n 1, 1, []), (2, .iconst 0, 1, []), (3, .istore_n 2, 1, []), (4, .iload_n 2, 1, []), (5, .aload_n 0, 1, []), (6, .getfield 10, 3, []), (9, .getfield 72, 3, []), (12, .if_icmp .ge 26, 3, [38]), (15, .aload_n 0, 1, []), (16, .iload_n 2, 1, []), (17, .invokevirtual 179, 3, []), (20, .istore_n 3, 1, []), (21, .iload_n 3, 1, []), (22, .iload_n 1, 1, []), (23, .if_icmp .le 7, 3, [30]), (26, .iload_n 3, 1, []), (27, .goto 4, 3, [31]), (30, .iload_n 1, 1, []), (31, .istore_n 1, 1, []), (32, .iinc 2 1, 3, []), (35, .goto (-31), 3, [4]), (38, .iload_n 1, 1, []), (39, .ireturn, 1, [])]
theorem hCX6_greatestLateness : ∀ q ∈ CX6_greatestLateness, chk cX6_greatestLateness q := by decide +kernel
theorem lCX6_greatestLateness : lnk CX6_greatestLateness = true := by decide +kernel
def CX6_improve : CL := [(0, .aload_n 0, 1, []), (1, .invokevirtual 111, 3, []), (4, .ifCond .ne 6, 3, [10]), (7, .bipush (-5), 2, []), (9, .ireturn, 1, []), (10, .aload_n 0, 1, []), (11, .getfield 44, 3, []), (14, .getfield 138, 3, []), (17, .istore_n 1, 1, []), (18, .bipush (-6), 2, []), (20, .istore_n 2, 1, []), (21, .iconst 0, 1, []), (22, .istore_n 3, 1, []), (23, .iload_n 3, 1, []), (24, .aload_n 0, 1, []), (25, .getfield 51, 3, []), (28, .getfield 141, 3, []), (31, .iconst 1, 1, []), (32, .isub, 1, []), (33, .if_icmp .ge 79, 3, [112]), (36, .aload_n 0, 1, []), (37, .getfield 51, 3, []), (40, .getfield 144, 3, []), (43, .iload_n 3, 1, []), (44, .iaload, 1, []), (45, .istore 4, 2, []), (47, .aload_n 0, 1, []), (48, .getfield 10, 3, []), (51, .getfield 147, 3, []), (54, .iload 4, 2, []), (56, .iaload, 1, []), (57, .aload_n 0, 1, []), (58, .getfield 10, 3, []), (61, .getfield 147, 3, []), (64, .aload_n 0, 1, []), (65, .getfield 51, 3, []), (68, .getfield 144, 3, []), (71, .iload_n 3, 1, []), (72, .iconst 1, 1, []), (73, .iadd, 1, []), (74, .iaload, 1, []), (75, .iaload, 1, []), (76, .if_icmp .ne 30, 3, [106]), (79, .aload_n 0, 1, []), (80, .iload 4, 2, []), (82, .invokevirtual 150, 3, []), (85, .istore 5, 2, []), (87, .iload 5, 2, []), (89, .bipush (-6), 2, []), (91, .if_icmp .eq 15, 3, [106]), (94, .iload 5, 2, []), (96, .iload_n 1, 1, []), (97, .if_icmp .ge 9, 3, [106]), (100, .iload 5, 2, []), (102, .istore_n 1, 1, []), (103, .iload 4, 2, []), (105, .istore_n 2, 1, []), (106, .iinc 3 1, 3, []), (109, .goto (-86), 3, [23]), (112, .iload_n 2, 1, []), (113, .bipush (-6), 2, []), (115, .if_icmp .ne 6, 3, [121]), (118, .bipush (-5), 2, []), (120, .ireturn, 1, []), (121, .aload_n 0, 1, []), (122, .invokevirtual 76, 3, []), (125, .aload_n 0, 1, []), (126, .getfield 10, 3, []), (129, .aload_n 0, 1, []), (130, .getfield 10, 3, []), (133, .getfield 147, 3, []), (136, .iload_n 2, 1, []), (137, .iaload, 1, []), (138, .aload_n 0, 1, []), (139, .getfield 10, 3, []), (142, .iload_n 2, 1, []), (143, .invokevirtual 154, 3, []), (146, .invokevirtual 107, 3, []), (149, .iload_n 1, 1, []), (150, .ireturn, 1, [])]
theorem hCX6_improve : ∀ q ∈ CX6_improve, chk cX6_improve q := by decide +kernel
theorem lCX6_improve : lnk CX6_improve = true := by decide +kernel
def CX6_isForced : CL := [(0, .aload_n 0, 1, []), (1, .getfield 10, 3, []), (4, .iload_n 2, 1, []), (5, .invokevirtual 97, 3, []), (8, .ifCond .eq 14, 3, [22]), (11, .aload_n 0, 1, []), (12, .getfield 10, 3, []), (15, .iload_n 3, 1, []), (16, .invokevirtual 97, 3, []), (19, .ifCond .ne 5, 3, [24]), (22, .iconst (-1), 1, []), (23, .ireturn, 1, []), (24, .iload_n 1, 1, []), (25, .iconst 0, 1, []), (26, .sipush 500, 3, []), (29, .invokestatic 68, 3, []), (32, .ifCond .eq 29, 3, [61]), (35, .iload_n 2, 1, []), (36, .iload_n 3, 1, []), (37, .if_icmp .eq 24, 3, [61]), (40, .aload_n 0, 1, []), (41, .getfield 10, 3, []), (44, .getfield 147, 3, []), (47, .iload_n 2, 1, []), (48, .iaload, 1, []), (49, .aload_n 0, 1, []), (50, .getfield 10, 3, []), (53, .getfield 147, 3, []), (56, .iload_n 3, 1, []), (57, .iaload, 1, []), (58, .if_icmp .eq 6, 3, [64]), (61, .bipush (-2), 2, []), (63, .ireturn, 1, []), (64, .aload_n 0, 1, []), (65, .getfield 55, 3, []), (68, .aload_n 0, 1, []), (69, .getfield 10, 3, []), (72, .invokevirtual 118, 3, []), (75, .aload_n 0, 1, []), (76, .getfield 55, 3, []), (79, .iload_n 1, 1, []), (80, .invokevirtual 207, 3, []), (83, .ifCond .ne 6, 3, [89]), (86, .bipush (-6), 2, []), (88, .ireturn, 1, []), (89, .aload_n 0, 1, []), (90, .getfield 55, 3, []), (93, .iload_n 2, 1, []), (94, .iload_n 3, 1, []), (95, .invokevirtual 213, 3, []), (98, .ifCond .eq 7, 3, [105]), (101, .iconst 1, 1, []), (102, .goto 4, 3, [106]), (105, .iconst 0, 1, []), (106, .ireturn, 1, [])]
theorem hCX6_isForced : ∀ q ∈ CX6_isForced, chk cX6_isForced q := by decide +kernel
theorem lCX6_isForced : lnk CX6_isForced = true := by decide +kernel
def CX6_isMachine : CL := [(0, .iload_n 0, 1, []), (1, .iconst 0, 1, []), (2, .iconst 3, 1, []), (3, .invokestatic 68, 3, []), (6, .ireturn, 1, [])]
theorem hCX6_isMachine : ∀ q ∈ CX6_isMachine, chk cX6_isMachine q := by decide +kernel
theorem lCX6_isMachine : lnk CX6_isMachine = true := by decide +kernel
def CX6_job : CL := [(0, .iload_n 1, 1, []), (1, .iconst 0, 1, []), (2, .bipush 50, 2, []), (4, .invokestatic 68, 3, []), (7, .ifCond .eq 14, 3, [21]), (10, .iload_n 2, 1, []), (11, .iconst 0, 1, []), (12, .sipush 200, 3, []), (15, .invokestatic 68, 3, []), (18, .ifCond .ne 6, 3, [24]), (21, .bipush (-2), 2, []), (23, .ireturn, 1, []), (24, .aload_n 0, 1, []), (25, .getfield 10, 3, []), (28, .getfield 72, 3, []), (31, .iconst 4, 1, []), (32, .if_icmp .lt 6, 3, [38]), (35, .bipush (-4), 2, []), (37, .ireturn, 1, []), (38, .aload_n 0, 1, []), (39, .invokevirtual 76, 3, []), (42, .aload_n 0, 1, []), (43, .getfield 10, 3, []), (46, .iload_n 1, 1, []), (47, .iload_n 2, 1, []), (48, .invokevirtual 79, 3, []), (51, .ireturn, 1, [])]
theorem hCX6_job : ∀ q ∈ CX6_job, chk cX6_job q := by decide +kernel
theorem lCX6_job : lnk CX6_job = true := by decide +kernel
def CX6_knowPlan : CL := [(0, .aload_n 0, 1, []), (1, .getfield 258, 3, []), (4, .ifCond .ne 63, 3, [67]), (7, .aload_n 0, 1, []), (8, .getfield 44, 3, []), (11, .aload_n 0, 1, []), (12, .getfield 10, 3, []), (15, .invokevirtual 118, 3, []), (18, .aload_n 0, 1, []), (19, .getfield 44, 3, []), (22, .aload_n 0, 1, []), (23, .getfield 10, 3, []), (26, .invokevirtual 265, 3, []), (29, .aload_n 0, 1, []), (30, .aload_n 0, 1, []), (31, .getfield 44, 3, []), (34, .invokevirtual 198, 3, []), (37, .putfield 268, 3, []), (40, .aload_n 0, 1, []), (41, .getfield 268, 3, []), (44, .ifCond .eq 18, 3, [62]), (47, .aload_n 0, 1, []), (48, .getfield 51, 3, []), (51, .aload_n 0, 1, []), (52, .getfield 44, 3, []), (55, .aload_n 0, 1, []), (56, .getfield 10, 3, []), (59, .invokevirtual 271, 3, []), (62, .aload_n 0, 1, []), (63, .iconst 1, 1, []), (64, .putfield 258, 3, []), (67, .aload_n 0, 1, []), (68, .getfield 268, 3, []), (71, .ireturn, 1, [])]
theorem hCX6_knowPlan : ∀ q ∈ CX6_knowPlan, chk cX6_knowPlan q := by decide +kernel
theorem lCX6_knowPlan : lnk CX6_knowPlan = true := by decide +kernel
def CX6_lateness : CL := [(0, .aload_n 0, 1, []), (1, .iload_n 1, 1, []), (2, .invokevirtual 176, 3, []), (5, .aload_n 0, 1, []), (6, .getfield 10, 3, []), (9, .getfield 167, 3, []), (12, .iload_n 1, 1, []), (13, .iaload, 1, []), (14, .isub, 1, []), (15, .istore_n 2, 1, []), (16, .iload_n 2, 1, []), (17, .ifCond .le 7, 3, [24]), (20, .iload_n 2, 1, []), (21, .goto 4, 3, [25]), (24, .iconst 0, 1, []), (25, .ireturn, 1, [])]
theorem hCX6_lateness : ∀ q ∈ CX6_lateness, chk cX6_lateness q := by decide +kernel
theorem lCX6_lateness : lnk CX6_lateness = true := by decide +kernel
def CX6_length : CL := [(0, .aload_n 0, 1, []), (1, .invokevirtual 111, 3, []), (4, .ifCond .eq 13, 3, [17]), (7, .aload_n 0, 1, []), (8, .getfield 44, 3, []), (11, .getfield 138, 3, []), (14, .goto 5, 3, [19]), (17, .bipush (-6), 2, []), (19, .ireturn, 1, [])]
theorem hCX6_length : ∀ q ∈ CX6_length, chk cX6_length q := by decide +kernel
theorem lCX6_length : lnk CX6_length = true := by decide +kernel
def CX6_lengthBehindNext : CL := [(0, .aload_n 0, 1, []), (1, .getfield 10, 3, []), (4, .getfield 147, 3, []), (7, .iload_n 1, 1, []), (8, .iaload, 1, []), (9, .istore_n 2, 1, []), (10, .aload_n 0, 1, []), (11, .getfield 10, 3, []), (14, .iload_n 1, 1, []), (15, .invokevirtual 154, 3, []), (18, .istore_n 3, 1, []), (19, .aload_n 0, 1, []), (20, .getfield 10, 3, []), (23, .iload_n 2, 1, []), (24, .iload_n 3, 1, []), (25, .invokevirtual 107, 3, []), (28, .aload_n 0, 1, []), (29, .getfield 55, 3, []), (32, .aload_n 0, 1, []), (33, .getfield 10, 3, []), (36, .invokevirtual 118, 3, []), (39, .aload_n 0, 1, []), (40, .getfield 55, 3, []), (43, .aload_n 0, 1, []), (44, .getfield 10, 3, []), (47, .invokevirtual 265, 3, []), (50, .aload_n 0, 1, []), (51, .getfield 55, 3, []), (54, .invokevirtual 198, 3, []), (57, .ifCond .eq 13, 3, [70]), (60, .aload_n 0, 1, []), (61, .getfield 55, 3, []), (64, .getfield 138, 3, []), (67, .goto 5, 3, [72]), (70, .bipush (-6), 2, []), (72, .istore 4, 2, []), (74, .aload_n 0, 1, []), (75, .getfield 10, 3, []), (78, .iload_n 2, 1, []), (79, .iload_n 3, 1, []), (80, .invokevirtual 107, 3, []), (83, .iload 4, 2, []), (85, .ireturn, 1, [])]
theorem hCX6_lengthBehindNext : ∀ q ∈ CX6_lengthBehindNext, chk cX6_lengthBehindNext q := by decide +kernel
theorem lCX6_lengthBehindNext : lnk CX6_lengthBehindNext = true := by decide +kernel
def CX6_loadPlan : CL := [(0, .aload_n 0, 1, []), (1, .getfield 37, 3, []), (4, .aload_n 0, 1, []), (5, .getfield 16, 3, []), (8, .invokevirtual 234, 3, []), (11, .bipush (-6), 2, []), (13, .if_icmp .eq 6, 3, [19]), (16, .bipush (-3), 2, []), (18, .ireturn, 1, []), (19, .iconst 0, 1, []), (20, .istore_n 1, 1, []), (21, .iload_n 1, 1, []), (22, .iconst 4, 1, []), (23, .if_icmp .ge 42, 3, [65]), (26, .aload_n 0, 1, []), (27, .getfield 37, 3, []), (30, .iload_n 1, 1, []), (31, .invokevirtual 240, 3, []), (34, .ifCond .eq 25, 3, [59]), (37, .aload_n 0, 1, []), (38, .getfield 16, 3, []), (41, .iload_n 1, 1, []), (42, .invokevirtual 243, 3, []), (45, .aload_n 0, 1, []), (46, .getfield 10, 3, []), (49, .iload_n 1, 1, []), (50, .invokevirtual 243, 3, []), (53, .if_icmp .eq 6, 3, [59]), (56, .bipush (-5), 2, []), (58, .ireturn, 1, []), (59, .iinc 1 1, 3, []), (62, .goto (-41), 3, [21]), (65, .aload_n 0, 1, []), (66, .invokevirtual 76, 3, []), (69, .iconst 0, 1, []), (70, .istore_n 1, 1, []), (71, .iload_n 1, 1, []), (72, .iconst 4, 1, []), (73, .if_icmp .ge 32, 3, [105]), (76, .aload_n 0, 1, []), (77, .getfield 37, 3, []), (80, .iload_n 1, 1, []), (81, .invokevirtual 240, 3, []), (84, .ifCond .eq 15, 3, [99]), (87, .aload_n 0, 1, []), (88, .getfield 10, 3, []), (91, .aload_n 0, 1, []), (92, .getfield 16, 3, []), (95, .iload_n 1, 1, []), (96, .invokevirtual 246, 3, []), (99, .iinc 1 1, 3, []), (102, .goto (-31), 3, [71]), (105, .aload_n 0, 1, []), (106, .getfield 37, 3, []), (109, .iconst 0, 1, []), (110, .putfield 189, 3, []), (113, .aload_n 0, 1, []), (114, .invokevirtual 111, 3, []), (117, .ifCond .eq 7, 3, [124]), (120, .iconst 1, 1, []), (121, .goto 4, 3, [125]), (124, .iconst 0, 1, []), (125, .ireturn, 1, [])]
theorem hCX6_loadPlan : ∀ q ∈ CX6_loadPlan, chk cX6_loadPlan q := by decide +kernel
theorem lCX6_loadPlan : lnk CX6_loadPlan = true := by decide +kernel
def CX6_loadRoutes : CL := [(0, .aload_n 0, 1, []), (1, .getfield 37, 3, []), (4, .aload_n 0, 1, []), (5, .getfield 16, 3, []), (8, .invokevirtual 230, 3, []), (11, .bipush (-6), 2, []), (13, .if_icmp .eq 6, 3, [19]), (16, .bipush (-3), 2, []), (18, .ireturn, 1, []), (19, .aload_n 0, 1, []), (20, .invokevirtual 76, 3, []), (23, .aload_n 0, 1, []), (24, .getfield 10, 3, []), (27, .aload_n 0, 1, []), (28, .getfield 16, 3, []), (31, .invokevirtual 237, 3, []), (34, .aload_n 0, 1, []), (35, .getfield 37, 3, []), (38, .iconst 0, 1, []), (39, .putfield 189, 3, []), (42, .aload_n 0, 1, []), (43, .getfield 10, 3, []), (46, .getfield 72, 3, []), (49, .ireturn, 1, [])]
theorem hCX6_loadRoutes : ∀ q ∈ CX6_loadRoutes, chk cX6_loadRoutes q := by decide +kernel
theorem lCX6_loadRoutes : lnk CX6_loadRoutes = true := by decide +kernel
def CX6_numberOfPlan : CL := [(0, .iload_n 1, 1, []), (1, .tableswitch 52 3 5 #[27, 35, 47], 27, [53, 28, 36, 48]), (28, .aload_n 0, 1, []), (29, .getfield 51, 3, []), (32, .getfield 141, 3, []), (35, .ireturn, 1, []), (36, .aload_n 0, 1, []), (37, .getfield 51, 3, []), (40, .aload_n 0, 1, []), (41, .getfield 10, 3, []), (44, .invokevirtual 310, 3, []), (47, .ireturn, 1, []), (48, .aload_n 0, 1, []), (49, .invokevirtual 313, 3, []), (52, .ireturn, 1, []), (53, .aload_n 0, 1, []), (54, .invokevirtual 316, 3, []), (57, .ireturn, 1, [])]
theorem hCX6_numberOfPlan : ∀ q ∈ CX6_numberOfPlan, chk cX6_numberOfPlan q := by decide +kernel
theorem lCX6_numberOfPlan : lnk CX6_numberOfPlan = true := by decide +kernel
def CX6_ofJob : CL := [(0, .aload_n 0, 1, []), (1, .getfield 10, 3, []), (4, .iload_n 1, 1, []), (5, .invokevirtual 83, 3, []), (8, .ifCond .ne 5, 3, [13]), (11, .iconst (-1), 1, []), (12, .ireturn, 1, []), (13, .iload_n 2, 1, []), (14, .iconst 0, 1, []), (15, .iconst 5, 1, []), (16, .invokestatic 68, 3, []), (19, .ifCond .ne 6, 3, [25]), (22, .bipush (-2), 2, []), (24, .ireturn, 1, []), (25, .iload_n 2, 1, []), (26, .tableswitch 69 0 3 #[30, 40, 50, 60], 30, [95, 56, 66, 76, 86]), (56, .aload_n 0, 1, []), (57, .getfield 10, 3, []), (60, .getfield 164, 3, []), (63, .iload_n 1, 1, []), (64, .iaload, 1, []), (65, .ireturn, 1, []), (66, .aload_n 0, 1, []), (67, .getfield 10, 3, []), (70, .getfield 167, 3, []), (73, .iload_n 1, 1, []), (74, .iaload, 1, []), (75, .ireturn, 1, []), (76, .aload_n 0, 1, []), (77, .getfield 10, 3, []), (80, .getfield 170, 3, []), (83, .iload_n 1, 1, []), (84, .iaload, 1, []), (85, .ireturn, 1, []), (86, .aload_n 0, 1, []), (87, .getfield 10, 3, []), (90, .iload_n 1, 1, []), (91, .invokevirtual 173, 3, []), (94, .ireturn, 1, []), (95, .aload_n 0, 1, []), (96, .invokevirtual 111, 3, []), (99, .ifCond .ne 6, 3, [105]), (102, .bipush (-6), 2, []), (104, .ireturn, 1, []), (105, .iload_n 2, 1, []), (106, .iconst 4, 1, []), (107, .if_icmp .ne 11, 3, [118]), (110, .aload_n 0, 1, []), (111, .iload_n 1, 1, []), (112, .invokevirtual 176, 3, []), (115, .goto 8, 3, [123]), (118, .aload_n 0, 1, []), (119, .iload_n 1, 1, []), (120, .invokevirtual 179, 3, []), (123, .ireturn, 1, [])]
theorem hCX6_ofJob : ∀ q ∈ CX6_ofJob, chk cX6_ofJob q := by decide +kernel
theorem lCX6_ofJob : lnk CX6_ofJob = true := by decide +kernel
def CX6_operation : CL := [(0, .aload_n 0, 1, []), (1, .getfield 10, 3, []), (4, .iload_n 1, 1, []), (5, .invokevirtual 83, 3, []), (8, .ifCond .ne 5, 3, [13]), (11, .iconst (-1), 1, []), (12, .ireturn, 1, []), (13, .iload_n 2, 1, []), (14, .invokestatic 87, 3, []), (17, .ifCond .eq 13, 3, [30]), (20, .iload_n 3, 1, []), (21, .iconst 1, 1, []), (22, .bipush 20, 2, []), (24, .invokestatic 68, 3, []), (27, .ifCond .ne 6, 3, [33]), (30, .bipush (-2), 2, []), (32, .ireturn, 1, []), (33, .aload_n 0, 1, []), (34, .getfield 10, 3, []), (37, .iload_n 1, 1, []), (38, .iload_n 2, 1, []), (39, .invokevirtual 90, 3, []), (42, .bipush (-6), 2, []), (44, .if_icmp .eq 6, 3, [50]), (47, .bipush (-5), 2, []), (49, .ireturn, 1, []), (50, .aload_n 0, 1, []), (51, .invokevirtual 76, 3, []), (54, .aload_n 0, 1, []), (55, .getfield 10, 3, []), (58, .iload_n 1, 1, []), (59, .iload_n 2, 1, []), (60, .iload_n 3, 1, []), (61, .invokevirtual 93, 3, []), (64, .ireturn, 1, [])]
theorem hCX6_operation : ∀ q ∈ CX6_operation, chk cX6_operation q := by decide +kernel
theorem lCX6_operation : lnk CX6_operation = true := by decide +kernel
def CX6_order : CL := [(0, .iload_n 1, 1, []), (1, .invokestatic 87, 3, []), (4, .ifCond .ne 6, 3, [10]), (7, .bipush (-2), 2, []), (9, .ireturn, 1, []), (10, .aload_n 0, 1, []), (11, .getfield 10, 3, []), (14, .iload_n 1, 1, []), (15, .iload_n 2, 1, []), (16, .invokevirtual 160, 3, []), (19, .ifCond .eq 19, 3, [38]), (22, .aload_n 0, 1, []), (23, .getfield 10, 3, []), (26, .getfield 128, 3, []), (29, .iconst 4, 1, []), (30, .iload_n 1, 1, []), (31, .imul, 1, []), (32, .iload_n 2, 1, []), (33, .iadd, 1, []), (34, .iaload, 1, []), (35, .goto 5, 3, [40]), (38, .bipush (-6), 2, []), (40, .ireturn, 1, [])]
theorem hCX6_order : ∀ q ∈ CX6_order, chk cX6_order q := by decide +kernel
theorem lCX6_order : lnk CX6_order = true := by decide +kernel
def CX6_path : CL := [(0, .aload_n 0, 1, []), (1, .invokevirtual 111, 3, []), (4, .ifCond .eq 18, 3, [22]), (7, .iload_n 1, 1, []), (8, .ifCond .lt 14, 3, [22]), (11, .iload_n 1, 1, []), (12, .aload_n 0, 1, []), (13, .getfield 51, 3, []), (16, .getfield 141, 3, []), (19, .if_icmp .lt 6, 3, [25]), (22, .bipush (-6), 2, []), (24, .ireturn, 1, []), (25, .aload_n 0, 1, []), (26, .getfield 51, 3, []), (29, .getfield 144, 3, []), (32, .iload_n 1, 1, []), (33, .iaload, 1, []), (34, .ireturn, 1, [])]
theorem hCX6_path : ∀ q ∈ CX6_path, chk cX6_path q := by decide +kernel
theorem lCX6_path : lnk CX6_path = true := by decide +kernel
def CX6_put : CL := [(0, .lload_n 1, 1, []), (1, .invokestatic 220, 3, []), (4, .istore_n 3, 1, []), (5, .iload_n 3, 1, []), (6, .bipush (-2), 2, []), (8, .if_icmp .ne 6, 3, [14]), (11, .bipush (-2), 2, []), (13, .ireturn, 1, []), (14, .aload_n 0, 1, []), (15, .getfield 37, 3, []), (18, .getfield 189, 3, []), (21, .iload_n 3, 1, []), (22, .iadd, 1, []), (23, .bipush 80, 2, []), (25, .if_icmp .le 6, 3, [31]), (28, .bipush (-4), 2, []), (30, .ireturn, 1, []), (31, .iload_n 3, 1, []), (32, .iconst 1, 1, []), (33, .isub, 1, []), (34, .istore 4, 2, []), (36, .iload 4, 2, []), (38, .ifCond .lt 29, 3, [67]), (41, .aload_n 0, 1, []), (42, .getfield 37, 3, []), (45, .lload_n 1, 1, []), (46, .bipush 8, 2, []), (48, .iload 4, 2, []), (50, .imul, 1, []), (51, .lushr, 1, []), (52, .ldc2_w 224, 3, []), (55, .land, 1, []), (56, .l2i, 1, []), (57, .i2c, 1, []), (58, .invokevirtual 226, 3, []), (61, .iinc 4 (-1), 3, []), (64, .goto (-28), 3, [36]), (67, .aload_n 0, 1, []), (68, .getfield 37, 3, []), (71, .getfield 189, 3, []), (74, .ireturn, 1, [])]
theorem hCX6_put : ∀ q ∈ CX6_put, chk cX6_put q := by decide +kernel
theorem lCX6_put : lnk CX6_put = true := by decide +kernel
def CX6_record : CL := [(0, .aload_n 0, 1, []), (1, .getfield 22, 3, []), (4, .aload_n 0, 1, []), (5, .getfield 10, 3, []), (8, .invokevirtual 256, 3, []), (11, .aload_n 0, 1, []), (12, .invokevirtual 253, 3, []), (15, .return_, 1, [])]
theorem hCX6_record : ∀ q ∈ CX6_record, chk cX6_record q := by decide +kernel
theorem lCX6_record : lnk CX6_record = true := by decide +kernel
def CX6_restore : CL := [(0, .iload_n 1, 1, []), (1, .iconst 0, 1, []), (2, .iconst 1, 1, []), (3, .invokestatic 68, 3, []), (6, .ifCond .ne 6, 3, [12]), (9, .bipush (-2), 2, []), (11, .ireturn, 1, []), (12, .aload_n 0, 1, []), (13, .getfield 30, 3, []), (16, .iload_n 1, 1, []), (17, .baload, 1, []), (18, .ifCond .ne 6, 3, [24]), (21, .bipush (-5), 2, []), (23, .ireturn, 1, []), (24, .aload_n 0, 1, []), (25, .invokevirtual 76, 3, []), (28, .aload_n 0, 1, []), (29, .getfield 10, 3, []), (32, .aload_n 0, 1, []), (33, .getfield 26, 3, []), (36, .iload_n 1, 1, []), (37, .aaload, 1, []), (38, .invokevirtual 237, 3, []), (41, .aload_n 0, 1, []), (42, .getfield 10, 3, []), (45, .getfield 72, 3, []), (48, .ireturn, 1, [])]
theorem hCX6_restore : ∀ q ∈ CX6_restore, chk cX6_restore q := by decide +kernel
theorem lCX6_restore : lnk CX6_restore = true := by decide +kernel
def CX6_save : CL := [(0, .iload_n 1, 1, []), (1, .iconst 0, 1, []), (2, .iconst 1, 1, []), (3, .invokestatic 68, 3, []), (6, .ifCond .ne 6, 3, [12]), (9, .bipush (-2), 2, []), (11, .ireturn, 1, []), (12, .aload_n 0, 1, []), (13, .getfield 26, 3, []), (16, .iload_n 1, 1, []), (17, .aaload, 1, []), (18, .ifnull 23, 3, []), (21, .aload_n 0, 1, []), (22, .getfield 26, 3, []), (25, .iload_n 1, 1, []), (26, .aaload, 1, []), (27, .aload_n 0, 1, []), (28, .getfield 10, 3, []), (31, .invokevirtual 237, 3, []), (34, .aload_n 0, 1, []), (35, .getfield 30, 3, []), (38, .iload_n 1, 1, []), (39, .iconst 1, 1, []), (40, .bastore, 1, []), (41, .aload_n 0, 1, []), (42, .getfield 10, 3, []), (45, .getfield 72, 3, []), (48, .ireturn, 1, [])]
theorem hCX6_save : ∀ q ∈ CX6_save, chk cX6_save q := by decide +kernel
theorem lCX6_save : lnk CX6_save = true := by decide +kernel
def CX6_signsIn : CL := [(0, .iconst 0, 1, []), (1, .istore_n 2, 1, []), (2, .lload_n 0, 1, []), (3, .lstore_n 3, 1, []), (4, .iload_n 2, 1, []), (5, .bipush 8, 2, []), (7, .if_icmp .ge 47, 3, [54]), (10, .lload_n 3, 1, []), (11, .ldc2_w 224, 3, []), (14, .land, 1, []), (15, .lconst 0, 1, []), (16, .lcmp, 1, []), (17, .ifCond .eq 37, 3, [54]), (20, .lload_n 3, 1, []), (21, .ldc2_w 224, 3, []), (24, .land, 1, []), (25, .l2i, 1, []), (26, .istore 5, 2, []), (28, .iload 5, 2, []), (30, .bipush 33, 2, []), (32, .bipush 126, 2, []), (34, .invokestatic 68, 3, []), (37, .ifCond .ne 6, 3, [43]), (40, .bipush (-2), 2, []), (42, .ireturn, 1, []), (43, .lload_n 3, 1, []), (44, .bipush 8, 2, []), (46, .lushr, 1, []), (47, .lstore_n 3, 1, []), (48, .iinc 2 1, 3, []), (51, .goto (-47), 3, [4]), (54, .iload_n 2, 1, []), (55, .ifCond .eq 9, 3, [64]), (58, .lload_n 3, 1, []), (59, .lconst 0, 1, []), (60, .lcmp, 1, []), (61, .ifCond .eq 8, 3, [69]), (64, .bipush (-2), 2, []), (66, .goto 4, 3, [70]), (69, .iload_n 2, 1, []), (70, .ireturn, 1, [])]
theorem hCX6_signsIn : ∀ q ∈ CX6_signsIn, chk cX6_signsIn q := by decide +kernel
theorem lCX6_signsIn : lnk CX6_signsIn = true := by decide +kernel
def CX6_stays : CL := [(0, .aload_n 0, 1, []), (1, .getfield 10, 3, []), (4, .iload_n 1, 1, []), (5, .invokevirtual 97, 3, []), (8, .ifCond .ne 5, 3, [13]), (11, .iconst 0, 1, []), (12, .ireturn, 1, []), (13, .aload_n 0, 1, []), (14, .getfield 10, 3, []), (17, .getfield 147, 3, []), (20, .iload_n 1, 1, []), (21, .iaload, 1, []), (22, .iload_n 2, 1, []), (23, .if_icmp .ne 21, 3, [44]), (26, .aload_n 0, 1, []), (27, .getfield 44, 3, []), (30, .iload_n 1, 1, []), (31, .invokevirtual 297, 3, []), (34, .iload_n 3, 1, []), (35, .if_icmp .gt 7, 3, [42]), (38, .iconst 1, 1, []), (39, .goto 4, 3, [43]), (42, .iconst 0, 1, []), (43, .ireturn, 1, []), (44, .aload_n 0, 1, []), (45, .getfield 44, 3, []), (48, .getfield 300, 3, []), (51, .iload_n 1, 1, []), (52, .iaload, 1, []), (53, .iload_n 3, 1, []), (54, .if_icmp .ge 7, 3, [61]), (57, .iconst 1, 1, []), (58, .goto 4, 3, [62]), (61, .iconst 0, 1, []), (62, .ireturn, 1, [])]
theorem hCX6_stays : ∀ q ∈ CX6_stays, chk cX6_stays q := by decide +kernel
theorem lCX6_stays : lnk CX6_stays = true := by decide +kernel
def CX6_sumOfLateness : CL := [(0, .iconst 0, 1, []), (1, .istore_n 1, 1, []), (2, .iconst 0, 1, []), (3, .istore_n 2, 1, []), (4, .iload_n 2, 1, []), (5, .aload_n 0, 1, []), (6, .getfield 10, 3, []), (9, .getfield 72, 3, []), (12, .if_icmp .ge 17, 3, [29]), (15, .iload_n 1, 1, []), (16, .aload_n 0, 1, []), (17, .iload_n 2, 1, []), (18, .invokevirtual 179, 3, []), (21, .iadd, 1, []), (22, .istore_n 1, 1, []), (23, .iinc 2 1, 3, []), (26, .goto (-22), 3, [4]), (29, .iload_n 1, 1, []), (30, .ireturn, 1, [])]
theorem hCX6_sumOfLateness : ∀ q ∈ CX6_sumOfLateness, chk cX6_sumOfLateness q := by decide +kernel
theorem lCX6_sumOfLateness : lnk CX6_sumOfLateness = true := by decide +kernel
def CX6_swap : CL := [(0, .iload_n 1, 1, []), (1, .invokestatic 87, 3, []), (4, .ifCond .ne 6, 3, [10]), (7, .bipush (-2), 2, []), (9, .ireturn, 1, []), (10, .iload_n 2, 1, []), (11, .ifCond .lt 18, 3, [29]), (14, .iload_n 2, 1, []), (15, .aload_n 0, 1, []), (16, .getfield 10, 3, []), (19, .getfield 104, 3, []), (22, .iload_n 1, 1, []), (23, .iaload, 1, []), (24, .iconst 1, 1, []), (25, .isub, 1, []), (26, .if_icmp .lt 5, 3, [31]), (29, .iconst (-1), 1, []), (30, .ireturn, 1, []), (31, .aload_n 0, 1, []), (32, .invokevirtual 76, 3, []), (35, .aload_n 0, 1, []), (36, .getfield 10, 3, []), (39, .iload_n 1, 1, []), (40, .iload_n 2, 1, []), (41, .invokevirtual 107, 3, []), (44, .aload_n 0, 1, []), (45, .invokevirtual 111, 3, []), (48, .ifCond .eq 7, 3, [55]), (51, .iconst 1, 1, []), (52, .goto 4, 3, [56]), (55, .iconst 0, 1, []), (56, .ireturn, 1, [])]
theorem hCX6_swap : ∀ q ∈ CX6_swap, chk cX6_swap q := by decide +kernel
theorem lCX6_swap : lnk CX6_swap = true := by decide +kernel
def CX6_takeBest : CL := [(0, .aload_n 0, 1, []), (1, .getfield 61, 3, []), (4, .getfield 115, 3, []), (7, .aload_n 0, 1, []), (8, .getfield 10, 3, []), (11, .invokevirtual 118, 3, []), (14, .aload_n 0, 1, []), (15, .getfield 61, 3, []), (18, .invokevirtual 122, 3, []), (21, .aload_n 0, 1, []), (22, .invokevirtual 76, 3, []), (25, .aload_n 0, 1, []), (26, .getfield 61, 3, []), (29, .getfield 125, 3, []), (32, .aload_n 0, 1, []), (33, .getfield 10, 3, []), (36, .getfield 128, 3, []), (39, .invokestatic 131, 3, []), (42, .aload_n 0, 1, []), (43, .getfield 61, 3, []), (46, .getfield 135, 3, []), (49, .ireturn, 1, [])]
theorem hCX6_takeBest : ∀ q ∈ CX6_takeBest, chk cX6_takeBest q := by decide +kernel
theorem lCX6_takeBest : lnk CX6_takeBest = true := by decide +kernel
def CX6_takeBreakdown : CL := [(0, .aload_n 0, 1, []), (1, .getfield 275, 3, []), (4, .iload_n 1, 1, []), (5, .if_icmp .ne 19, 3, [24]), (8, .aload_n 0, 1, []), (9, .getfield 278, 3, []), (12, .iload_n 2, 1, []), (13, .if_icmp .ne 11, 3, [24]), (16, .aload_n 0, 1, []), (17, .getfield 281, 3, []), (20, .iload_n 3, 1, []), (21, .if_icmp .eq 11, 3, [32]), (24, .aload_n 0, 1, []), (25, .getfield 65, 3, []), (28, .iconst 0, 1, []), (29, .putfield 262, 3, []), (32, .aload_n 0, 1, []), (33, .iload_n 1, 1, []), (34, .putfield 275, 3, []), (37, .aload_n 0, 1, []), (38, .iload_n 2, 1, []), (39, .putfield 278, 3, []), (42, .aload_n 0, 1, []), (43, .iload_n 3, 1, []), (44, .putfield 281, 3, []), (47, .aload_n 0, 1, []), (48, .getfield 65, 3, []), (51, .getfield 115, 3, []), (54, .aload_n 0, 1, []), (55, .getfield 10, 3, []), (58, .invokevirtual 118, 3, []), (61, .iconst 0, 1, []), (62, .istore 4, 2, []), (64, .iload 4, 2, []), (66, .iconst 4, 1, []), (67, .if_icmp .ge 107, 3, [174]), (70, .iconst 0, 1, []), (71, .istore 5, 2, []), (73, .iconst 0, 1, []), (74, .istore 6, 2, []), (76, .iload 6, 2, []), (78, .aload_n 0, 1, []), (79, .getfield 10, 3, []), (82, .getfield 104, 3, []), (85, .iload 4, 2, []), (87, .iaload, 1, []), (88, .if_icmp .ge 62, 3, [150]), (91, .aload_n 0, 1, []), (92, .getfield 10, 3, []), (95, .iload 4, 2, []), (97, .iload 6, 2, []), (99, .invokevirtual 284, 3, []), (102, .istore 7, 2, []), (104, .aload_n 0, 1, []), (105, .iload 7, 2, []), (107, .iload_n 1, 1, []), (108, .iload_n 2, 1, []), (109, .invokevirtual 287, 3, []), (112, .ifCond .eq 9, 3, [121]), (115, .iinc 5 1, 3, []), (118, .goto 26, 3, [144]), (121, .aload_n 0, 1, []), (122, .getfield 65, 3, []), (125, .getfield 115, 3, []), (128, .iload 7, 2, []), (130, .iload 4, 2, []), (132, .iload_n 1, 1, []), (133, .if_icmp .ne 7, 3, [140]), (136, .iload_n 3, 1, []), (137, .goto 4, 3, [141]), (140, .iload_n 2, 1, []), (141, .invokevirtual 290, 3, []), (144, .iinc 6 1, 3, []), (147, .goto (-71), 3, [76]), (150, .aload_n 0, 1, []), (151, .getfield 65, 3, []), (154, .getfield 115, 3, []), (157, .aload_n 0, 1, []), (158, .getfield 10, 3, []), (161, .iload 4, 2, []), (163, .iload 5, 2, []), (165, .invokevirtual 293, 3, []), (168, .iinc 4 1, 3, []), (171, .goto (-107), 3, [64]), (174, .return_, 1, [])]
theorem hCX6_takeBreakdown : ∀ q ∈ CX6_takeBreakdown, chk cX6_takeBreakdown q := by decide +kernel
theorem lCX6_takeBreakdown : lnk CX6_takeBreakdown = true := by decide +kernel
def CX6_timeAbout : CL := [(0, .iload_n 2, 1, []), (1, .tableswitch 77 3 6 #[31, 41, 51, 60], 31, [78, 32, 42, 52, 61]), (32, .aload_n 0, 1, []), (33, .getfield 44, 3, []), (36, .getfield 300, 3, []), (39, .iload_n 1, 1, []), (40, .iaload, 1, []), (41, .ireturn, 1, []), (42, .aload_n 0, 1, []), (43, .getfield 44, 3, []), (46, .getfield 303, 3, []), (49, .iload_n 1, 1, []), (50, .iaload, 1, []), (51, .ireturn, 1, []), (52, .aload_n 0, 1, []), (53, .getfield 44, 3, []), (56, .iload_n 1, 1, []), (57, .invokevirtual 306, 3, []), (60, .ireturn, 1, []), (61, .aload_n 0, 1, []), (62, .getfield 44, 3, []), (65, .iload_n 1, 1, []), (66, .invokevirtual 306, 3, []), (69, .ifCond .ne 7, 3, [76]), (72, .iconst 1, 1, []), (73, .goto 4, 3, [77]), (76, .iconst 0, 1, []), (77, .ireturn, 1, []), (78, .aload_n 0, 1, []), (79, .getfield 51, 3, []), (82, .iload_n 1, 1, []), (83, .invokevirtual 309, 3, []), (86, .ireturn, 1, [])]
theorem hCX6_timeAbout : ∀ q ∈ CX6_timeAbout, chk cX6_timeAbout q := by decide +kernel
theorem lCX6_timeAbout : lnk CX6_timeAbout = true := by decide +kernel
def CX6_undo : CL := [(0, .aload_n 0, 1, []), (1, .getfield 22, 3, []), (4, .getfield 192, 3, []), (7, .ifCond .gt 6, 3, [13]), (10, .bipush (-5), 2, []), (12, .ireturn, 1, []), (13, .aload_n 0, 1, []), (14, .getfield 22, 3, []), (17, .aload_n 0, 1, []), (18, .getfield 10, 3, []), (21, .invokevirtual 250, 3, []), (24, .aload_n 0, 1, []), (25, .invokevirtual 253, 3, []), (28, .aload_n 0, 1, []), (29, .getfield 22, 3, []), (32, .getfield 192, 3, []), (35, .ireturn, 1, [])]
theorem hCX6_undo : ∀ q ∈ CX6_undo, chk cX6_undo q := by decide +kernel
theorem lCX6_undo : lnk CX6_undo = true := by decide +kernel
def CX6_wipe : CL := [(0, .aload_n 0, 1, []), (1, .getfield 37, 3, []), (4, .getfield 189, 3, []), (7, .istore_n 1, 1, []), (8, .aload_n 0, 1, []), (9, .getfield 37, 3, []), (12, .iconst 0, 1, []), (13, .putfield 189, 3, []), (16, .iload_n 1, 1, []), (17, .ireturn, 1, [])]
theorem hCX6_wipe : ∀ q ∈ CX6_wipe, chk cX6_wipe q := by decide +kernel
theorem lCX6_wipe : lnk CX6_wipe = true := by decide +kernel
def CX6_within : CL := [(0, .iload_n 0, 1, []), (1, .iload_n 1, 1, []), (2, .if_icmp .lt 12, 3, [14]), (5, .iload_n 0, 1, []), (6, .iload_n 2, 1, []), (7, .if_icmp .gt 7, 3, [14]), (10, .iconst 1, 1, []), (11, .goto 4, 3, [15]), (14, .iconst 0, 1, []), (15, .ireturn, 1, [])]
theorem hCX6_within : ∀ q ∈ CX6_within, chk cX6_within q := by decide +kernel
theorem lCX6_within : lnk CX6_within = true := by decide +kernel
def CX7_about : CL := [(0, .aload_n 0, 1, []), (1, .iload_n 1, 1, []), (2, .invokevirtual 102, 3, []), (5, .ifCond .ne 5, 3, [10]), (8, .iconst (-1), 1, []), (9, .ireturn, 1, []), (10, .iload_n 2, 1, []), (11, .iconst 0, 1, []), (12, .bipush 7, 2, []), (14, .invokestatic 87, 3, []), (17, .ifCond .ne 6, 3, [23]), (20, .bipush (-2), 2, []), (22, .ireturn, 1, []), (23, .iload_n 2, 1, []), (24, .iconst 3, 1, []), (25, .if_icmp .ge 34, 3, [59]), (28, .iload_n 2, 1, []), (29, .ifCond .ne 11, 3, [40]), (32, .aload_n 0, 1, []), (33, .iload_n 1, 1, []), (34, .invokevirtual 73, 3, []), (37, .goto 21, 3, [58]), (40, .iload_n 2, 1, []), (41, .iconst 1, 1, []), (42, .if_icmp .ne 11, 3, [53]), (45, .aload_n 0, 1, []), (46, .iload_n 1, 1, []), (47, .invokevirtual 105, 3, []), (50, .goto 8, 3, [58]), (53, .aload_n 0, 1, []), (54, .iload_n 1, 1, []), (55, .invokevirtual 156, 3, []), (58, .ireturn, 1, []), (59, .aload_n 0, 1, []), (60, .invokevirtual 139, 3, []), (63, .ifCond .ne 6, 3, [69]), (66, .bipush (-6), 2, []), (68, .ireturn, 1, []), (69, .aload_n 0, 1, []), (70, .invokevirtual 165, 3, []), (73, .iload_n 2, 1, []), (74, .tableswitch 69 3 6 #[30, 37, 44, 55], 30, [143, 104, 111, 118, 129]), (104, .aload_n 0, 1, []), (105, .getfield 32, 3, []), (108, .iload_n 1, 1, []), (109, .iaload, 1, []), (110, .ireturn, 1, []), (111, .aload_n 0, 1, []), (112, .getfield 35, 3, []), (115, .iload_n 1, 1, []), (116, .iaload, 1, []), (117, .ireturn, 1, []), (118, .aload_n 0, 1, []), (119, .invokevirtual 143, 3, []), (122, .aload_n 0, 1, []), (123, .iload_n 1, 1, []), (124, .invokevirtual 147, 3, []), (127, .isub, 1, []), (128, .ireturn, 1, []), (129, .aload_n 0, 1, []), (130, .iload_n 1, 1, []), (131, .invokevirtual 150, 3, []), (134, .ifCond .eq 7, 3, [141]), (137, .iconst 1, 1, []), (138, .goto 4, 3, [142]), (141, .iconst 0, 1, []), (142, .ireturn, 1, []), (143, .aload_n 0, 1, []), (144, .iload_n 1, 1, []), (145, .invokevirtual 202, 3, []), (148, .ireturn, 1, [])]
theorem hCX7_about : ∀ q ∈ CX7_about, chk cX7_about q := by decide +kernel
theorem lCX7_about : lnk CX7_about = true := by decide +kernel
def CX7_addJob : CL := [(0, .aload_n 0, 1, []), (1, .getfield 7, 3, []), (4, .iconst 0, 1, []), (5, .iaload, 1, []), (6, .istore_n 3, 1, []), (7, .aload_n 0, 1, []), (8, .getfield 7, 3, []), (11, .iconst 0, 1, []), (12, .dup2, 1, []), (13, .iaload, 1, []), (14, .iconst 1, 1, []), (15, .iadd, 1, []), (16, .iastore, 1, []), (17, .aload_n 0, 1, []), (18, .getfield 7, 3, []), (21, .iconst 1, 1, []), (22, .iconst 3, 1, []), (23, .iload_n 3, 1, []), (24, .imul, 1, []), (25, .iadd, 1, []), (26, .iload_n 1, 1, []), (27, .iastore, 1, []), (28, .aload_n 0, 1, []), (29, .getfield 7, 3, []), (32, .iconst 1, 1, []), (33, .iconst 3, 1, []), (34, .iload_n 3, 1, []), (35, .imul, 1, []), (36, .iadd, 1, []), (37, .iconst 1, 1, []), (38, .iadd, 1, []), (39, .iload_n 2, 1, []), (40, .iastore, 1, []), (41, .aload_n 0, 1, []), (42, .getfield 7, 3, []), (45, .iconst 1, 1, []), (46, .iconst 3, 1, []), (47, .iload_n 3, 1, []), (48, .imul, 1, []), (49, .iadd, 1, []), (50, .iconst 2, 1, []), (51, .iadd, 1, []), (52, .iconst 0, 1, []), (53, .iastore, 1, []), (54, .return_, 1, [])]
theorem hCX7_addJob : ∀ q ∈ CX7_addJob, chk cX7_addJob q := by decide +kernel
theorem lCX7_addJob : lnk CX7_addJob = true := by decide +kernel
def CX7_addOperation : CL := [(0, .iconst 4, 1, []), (1, .iload_n 1, 1, []), (2, .imul, 1, []), (3, .aload_n 0, 1, []), (4, .iload_n 1, 1, []), (5, .iconst 2, 1, []), (6, .invokevirtual 69, 3, []), (9, .iadd, 1, []), (10, .istore 4, 2, []), (12, .aload_n 0, 1, []), (13, .getfield 7, 3, []), (16, .bipush 13, 2, []), (18, .iconst 2, 1, []), (19, .iload 4, 2, []), (21, .imul, 1, []), (22, .iadd, 1, []), (23, .iload_n 2, 1, []), (24, .iastore, 1, []), (25, .aload_n 0, 1, []), (26, .getfield 7, 3, []), (29, .bipush 13, 2, []), (31, .iconst 2, 1, []), (32, .iload 4, 2, []), (34, .imul, 1, []), (35, .iadd, 1, []), (36, .iconst 1, 1, []), (37, .iadd, 1, []), (38, .iload_n 3, 1, []), (39, .iastore, 1, []), (40, .aload_n 0, 1, []), (41, .getfield 7, 3, []), (44, .iconst 1, 1, []), (45, .iconst 3, 1, []), (46, .iload_n 1, 1, []), (47, .imul, 1, []), (48, .iadd, 1, []), (49, .iconst 2, 1, []), (50, .iadd, 1, []), (51, .dup2, 1, []), (52, .iaload, 1, []), (53, .iconst 1, 1, []), (54, .iadd, 1, []), (55, .iastore, 1, []), (56, .aload_n 0, 1, []), (57, .getfield 7, 3, []), (60, .bipush 49, 2, []), (62, .iconst 4, 1, []), (63, .iload_n 2, 1, []), (64, .imul, 1, []), (65, .iadd, 1, []), (66, .aload_n 0, 1, []), (67, .getfield 7, 3, []), (70, .bipush 45, 2, []), (72, .iload_n 2, 1, []), (73, .iadd, 1, []), (74, .iaload, 1, []), (75, .iadd, 1, []), (76, .iload_n 1, 1, []), (77, .iastore, 1, []), (78, .aload_n 0, 1, []), (79, .getfield 7, 3, []), (82, .bipush 45, 2, []), (84, .iload_n 2, 1, []), (85, .iadd, 1, []), (86, .dup2, 1, []), (87, .iaload, 1, []), (88, .iconst 1, 1, []), (89, .iadd, 1, []), (90, .iastore, 1, []), (91, .iload 4, 2, []), (93, .ireturn, 1, [])]
theorem hCX7_addOperation : ∀ q ∈ CX7_addOperation, chk cX7_addOperation q := by decide +kernel
theorem lCX7_addOperation : lnk CX7_addOperation = true := by decide +kernel
def CX7_areTwo : CL := [(0, .iload_n 1, 1, []), (1, .iload_n 2, 1, []), (2, .if_icmp .eq 36, 3, [38]), (5, .aload_n 0, 1, []), (6, .iload_n 1, 1, []), (7, .invokevirtual 102, 3, []), (10, .ifCond .eq 28, 3, [38]), (13, .aload_n 0, 1, []), (14, .iload_n 2, 1, []), (15, .invokevirtual 102, 3, []), (18, .ifCond .eq 20, 3, [38]), (21, .aload_n 0, 1, []), (22, .iload_n 1, 1, []), (23, .invokevirtual 73, 3, []), (26, .aload_n 0, 1, []), (27, .iload_n 2, 1, []), (28, .invokevirtual 73, 3, []), (31, .if_icmp .ne 7, 3, [38]), (34, .iconst 1, 1, []), (35, .goto 4, 3, [39]), (38, .iconst 0, 1, []), (39, .ireturn, 1, [])]
theorem hCX7_areTwo : ∀ q ∈ CX7_areTwo, chk cX7_areTwo q := by decide +kernel
theorem lCX7_areTwo : lnk CX7_areTwo = true := by decide +kernel
def CX7_beforeOnRoute : CL := [(0, .iload_n 1, 1, []), (1, .iconst 4, 1, []), (2, .irem, 1, []), (3, .ifCond .ne 8, 3, [11]), (6, .bipush (-6), 2, []), (8, .goto 6, 3, [14]), (11, .iload_n 1, 1, []), (12, .iconst 1, 1, []), (13, .isub, 1, []), (14, .ireturn, 1, [])]
theorem hCX7_beforeOnRoute : ∀ q ∈ CX7_beforeOnRoute, chk cX7_beforeOnRoute q := by decide +kernel
theorem lCX7_beforeOnRoute : lnk CX7_beforeOnRoute = true := by decide +kernel
def CX7_behindOnRoute : CL := [(0, .iload_n 1, 1, []), (1, .iconst 4, 1, []), (2, .irem, 1, []), (3, .iconst 1, 1, []), (4, .iadd, 1, []), (5, .aload_n 0, 1, []), (6, .iload_n 1, 1, []), (7, .iconst 4, 1, []), (8, .idiv, 1, []), (9, .iconst 2, 1, []), (10, .invokevirtual 69, 3, []), (13, .if_icmp .ge 9, 3, [22]), (16, .iload_n 1, 1, []), (17, .iconst 1, 1, []), (18, .iadd, 1, []), (19, .goto 5, 3, [24]), (22, .bipush (-6), 2, []), (24, .ireturn, 1, [])]
theorem hCX7_behindOnRoute : ∀ q ∈ CX7_behindOnRoute, chk cX7_behindOnRoute q := by decide +kernel
theorem lCX7_behindOnRoute : lnk CX7_behindOnRoute = true := by decide +kernel
def CX7_best : CL := [(0, .iload_n 1, 1, []), (1, .iconst (-1), 1, []), (2, .iconst 3, 1, []), (3, .invokestatic 87, 3, []), (6, .ifCond .ne 6, 3, [12]), (9, .bipush (-2), 2, []), (11, .ireturn, 1, []), (12, .aload_n 0, 1, []), (13, .invokevirtual 192, 3, []), (16, .istore_n 3, 1, []), (17, .iload_n 1, 1, []), (18, .iconst (-1), 1, []), (19, .if_icmp .ne 7, 3, [26]), (22, .iload_n 3, 1, []), (23, .goto 9, 3, [32]), (26, .aload_n 0, 1, []), (27, .iload_n 1, 1, []), (28, .iload_n 2, 1, []), (29, .invokevirtual 195, 3, []), (32, .ireturn, 1, [])]
theorem hCX7_best : ∀ q ∈ CX7_best, chk cX7_best q := by decide +kernel
theorem lCX7_best : lnk CX7_best = true := by decide +kernel
def CX7_blocks : CL := [(0, .iconst 0, 1, []), (1, .istore_n 1, 1, []), (2, .iconst 0, 1, []), (3, .istore_n 2, 1, []), (4, .iload_n 2, 1, []), (5, .aload_n 0, 1, []), (6, .getfield 153, 3, []), (9, .if_icmp .ge 46, 3, [55]), (12, .iload_n 1, 1, []), (13, .iload_n 2, 1, []), (14, .ifCond .eq 28, 3, [42]), (17, .aload_n 0, 1, []), (18, .aload_n 0, 1, []), (19, .getfield 38, 3, []), (22, .iload_n 2, 1, []), (23, .iaload, 1, []), (24, .invokevirtual 73, 3, []), (27, .aload_n 0, 1, []), (28, .aload_n 0, 1, []), (29, .getfield 38, 3, []), (32, .iload_n 2, 1, []), (33, .iconst 1, 1, []), (34, .isub, 1, []), (35, .iaload, 1, []), (36, .invokevirtual 73, 3, []), (39, .if_icmp .eq 7, 3, [46]), (42, .iconst 1, 1, []), (43, .goto 4, 3, [47]), (46, .iconst 0, 1, []), (47, .iadd, 1, []), (48, .istore_n 1, 1, []), (49, .iinc 2 1, 3, []), (52, .goto (-48), 3, [4]), (55, .iload_n 1, 1, []), (56, .ireturn, 1, [])]
theorem hCX7_blocks : ∀ q ∈ CX7_blocks, chk cX7_blocks q := by decide +kernel
theorem lCX7_blocks : lnk CX7_blocks = true := by decide +kernel
def CX7_bound : CL := [(0, .iload_n 1, 1, []), (1, .iconst (-1), 1, []), (2, .iconst 3, 1, []), (3, .invokestatic 87, 3, []), (6, .ifCond .ne 6, 3, [12]), (9, .bipush (-2), 2, []), (11, .ireturn, 1, []), (12, .iload_n 1, 1, []), (13, .ifCond .lt 9, 3, [22]), (16, .aload_n 0, 1, []), (17, .iload_n 1, 1, []), (18, .invokevirtual 236, 3, []), (21, .ireturn, 1, []), (22, .iconst 0, 1, []), (23, .istore_n 2, 1, []), (24, .iconst 0, 1, []), (25, .istore_n 3, 1, []), (26, .iload_n 3, 1, []), (27, .iconst 4, 1, []), (28, .if_icmp .ge 19, 3, [47]), (31, .iload_n 2, 1, []), (32, .aload_n 0, 1, []), (33, .iload_n 3, 1, []), (34, .invokevirtual 236, 3, []), (37, .invokestatic 108, 3, []), (40, .istore_n 2, 1, []), (41, .iinc 3 1, 3, []), (44, .goto (-18), 3, [26]), (47, .iload_n 2, 1, []), (48, .ireturn, 1, [])]
theorem hCX7_bound : ∀ q ∈ CX7_bound, chk cX7_bound q := by decide +kernel
theorem lCX7_bound : lnk CX7_bound = true := by decide +kernel
def CX7_boundOf : CL := [(0, .aload_n 0, 1, []), (1, .getfield 7, 3, []), (4, .bipush 45, 2, []), (6, .iload_n 1, 1, []), (7, .iadd, 1, []), (8, .iaload, 1, []), (9, .istore_n 2, 1, []), (10, .iconst 0, 1, []), (11, .istore_n 3, 1, []), (12, .iload_n 3, 1, []), (13, .bipush 16, 2, []), (15, .if_icmp .ge 32, 3, [47]), (18, .aload_n 0, 1, []), (19, .getfield 56, 3, []), (22, .iload_n 3, 1, []), (23, .aload_n 0, 1, []), (24, .iload_n 3, 1, []), (25, .invokevirtual 102, 3, []), (28, .ifCond .eq 11, 3, [39]), (31, .aload_n 0, 1, []), (32, .iload_n 3, 1, []), (33, .invokevirtual 105, 3, []), (36, .goto 4, 3, [40]), (39, .iconst 0, 1, []), (40, .iastore, 1, []), (41, .iinc 3 1, 3, []), (44, .goto (-32), 3, [12]), (47, .iconst 0, 1, []), (48, .istore_n 3, 1, []), (49, .iconst 0, 1, []), (50, .istore 4, 2, []), (52, .iload_n 2, 1, []), (53, .ifCond .le 63, 3, [116]), (56, .aload_n 0, 1, []), (57, .iload_n 1, 1, []), (58, .iload 4, 2, []), (60, .invokevirtual 233, 3, []), (63, .istore 5, 2, []), (65, .iload 5, 2, []), (67, .ifCond .lt 43, 3, [110]), (70, .aload_n 0, 1, []), (71, .getfield 56, 3, []), (74, .iload 5, 2, []), (76, .dup2, 1, []), (77, .iaload, 1, []), (78, .iconst 1, 1, []), (79, .isub, 1, []), (80, .iastore, 1, []), (81, .aload_n 0, 1, []), (82, .getfield 56, 3, []), (85, .iload 5, 2, []), (87, .iaload, 1, []), (88, .ifCond .ne 22, 3, [110]), (91, .iinc 2 (-1), 3, []), (94, .iload_n 3, 1, []), (95, .iload 4, 2, []), (97, .iconst 1, 1, []), (98, .iadd, 1, []), (99, .aload_n 0, 1, []), (100, .iload 5, 2, []), (102, .invokevirtual 230, 3, []), (105, .iadd, 1, []), (106, .invokestatic 108, 3, []), (109, .istore_n 3, 1, []), (110, .iinc 4 1, 3, []), (113, .goto (-61), 3, [52]), (116, .iload_n 3, 1, []), (117, .ireturn, 1, [])]
theorem hCX7_boundOf : ∀ q ∈ CX7_boundOf, chk cX7_boundOf q := by decide +kernel
theorem lCX7_boundOf : lnk CX7_boundOf = true := by decide +kernel
def CX7_breakdown : CL := [(0, .iload_n 1, 1, []), (1, .iconst 0, 1, []), (2, .iconst 3, 1, []), (3, .invokestatic 87, 3, []), (6, .ifCond .eq 36, 3, [42]), (9, .iload_n 2, 1, []), (10, .iconst 0, 1, []), (11, .sipush 200, 3, []), (14, .invokestatic 87, 3, []), (17, .ifCond .eq 25, 3, [42]), (20, .iload_n 3, 1, []), (21, .iload_n 2, 1, []), (22, .sipush 400, 3, []), (25, .invokestatic 87, 3, []), (28, .ifCond .eq 14, 3, [42]), (31, .iload 4, 2, []), (33, .iconst (-1), 1, []), (34, .bipush 15, 2, []), (36, .invokestatic 87, 3, []), (39, .ifCond .ne 6, 3, [45]), (42, .bipush (-2), 2, []), (44, .ireturn, 1, []), (45, .aload_n 0, 1, []), (46, .invokevirtual 139, 3, []), (49, .ifCond .ne 6, 3, [55]), (52, .bipush (-5), 2, []), (54, .ireturn, 1, []), (55, .aload_n 0, 1, []), (56, .invokevirtual 179, 3, []), (59, .iconst 0, 1, []), (60, .istore 5, 2, []), (62, .iload 5, 2, []), (64, .iconst 4, 1, []), (65, .if_icmp .ge 28, 3, [93]), (68, .aload_n 0, 1, []), (69, .iload 5, 2, []), (71, .iload_n 1, 1, []), (72, .iload_n 2, 1, []), (73, .iload_n 3, 1, []), (74, .invokevirtual 198, 3, []), (77, .istore 6, 2, []), (79, .aload_n 0, 1, []), (80, .iload 5, 2, []), (82, .iload 6, 2, []), (84, .invokevirtual 182, 3, []), (87, .iinc 5 1, 3, []), (90, .goto (-28), 3, [62]), (93, .aload_n 0, 1, []), (94, .invokevirtual 185, 3, []), (97, .istore 5, 2, []), (99, .aload_n 0, 1, []), (100, .aload_n 0, 1, []), (101, .getfield 53, 3, []), (104, .invokevirtual 188, 3, []), (107, .iload 4, 2, []), (109, .iconst (-1), 1, []), (110, .if_icmp .ne 8, 3, [118]), (113, .iload 5, 2, []), (115, .goto 15, 3, [130]), (118, .aload_n 0, 1, []), (119, .iload 4, 2, []), (121, .iconst 4, 1, []), (122, .idiv, 1, []), (123, .iload 4, 2, []), (125, .iconst 4, 1, []), (126, .irem, 1, []), (127, .invokevirtual 195, 3, []), (130, .ireturn, 1, [])]
theorem hCX7_breakdown : ∀ q ∈ CX7_breakdown, chk cX7_breakdown q := by decide +kernel
theorem lCX7_breakdown : lnk CX7_breakdown = true := by decide +kernel
def CX7_change : CL := [(0, .aload_n 0, 1, []), (1, .iload_n 1, 1, []), (2, .invokevirtual 102, 3, []), (5, .ifCond .ne 5, 3, [10]), (8, .iconst (-1), 1, []), (9, .ireturn, 1, []), (10, .iload_n 2, 1, []), (11, .iconst 1, 1, []), (12, .bipush 20, 2, []), (14, .invokestatic 87, 3, []), (17, .ifCond .ne 6, 3, [23]), (20, .bipush (-2), 2, []), (22, .ireturn, 1, []), (23, .aload_n 0, 1, []), (24, .invokevirtual 91, 3, []), (27, .aload_n 0, 1, []), (28, .iload_n 1, 1, []), (29, .invokevirtual 105, 3, []), (32, .istore_n 3, 1, []), (33, .aload_n 0, 1, []), (34, .getfield 7, 3, []), (37, .bipush 13, 2, []), (39, .iconst 2, 1, []), (40, .iload_n 1, 1, []), (41, .imul, 1, []), (42, .iadd, 1, []), (43, .iconst 1, 1, []), (44, .iadd, 1, []), (45, .iload_n 2, 1, []), (46, .iastore, 1, []), (47, .iload_n 3, 1, []), (48, .ireturn, 1, [])]
theorem hCX7_change : ∀ q ∈ CX7_change, chk cX7_change q := by decide +kernel
theorem lCX7_change : lnk CX7_change = true := by decide +kernel
def CX7_count : CL := [(0, .iload_n 1, 1, []), (1, .iconst 3, 1, []), (2, .bipush 6, 2, []), (4, .invokestatic 87, 3, []), (7, .ifCond .eq 9, 3, [16]), (10, .aload_n 0, 1, []), (11, .iload_n 1, 1, []), (12, .invokevirtual 217, 3, []), (15, .ireturn, 1, []), (16, .iload_n 1, 1, []), (17, .tableswitch 97 0 9 #[55, 62, 68, 97, 97, 97, 97, 74, 87, 92], 55, [114, 72, 79, 85, 114, 114, 114, 114, 91, 104, 109]), (72, .aload_n 0, 1, []), (73, .getfield 7, 3, []), (76, .iconst 0, 1, []), (77, .iaload, 1, []), (78, .ireturn, 1, []), (79, .aload_n 0, 1, []), (80, .iconst 0, 1, []), (81, .invokevirtual 220, 3, []), (84, .ireturn, 1, []), (85, .aload_n 0, 1, []), (86, .iconst 1, 1, []), (87, .invokevirtual 220, 3, []), (90, .ireturn, 1, []), (91, .aload_n 0, 1, []), (92, .invokevirtual 139, 3, []), (95, .ifCond .eq 7, 3, [102]), (98, .iconst 1, 1, []), (99, .goto 4, 3, [103]), (102, .iconst 0, 1, []), (103, .ireturn, 1, []), (104, .aload_n 0, 1, []), (105, .getfield 224, 3, []), (108, .ireturn, 1, []), (109, .aload_n 0, 1, []), (110, .getfield 83, 3, []), (113, .ireturn, 1, []), (114, .bipush (-2), 2, []), (116, .ireturn, 1, [])]
theorem hCX7_count : ∀ q ∈ CX7_count, chk cX7_count q := by decide +kernel
theorem lCX7_count : lnk CX7_count = true := by decide +kernel
def CX7_endOf : CL := [(0, .iload_n 1, 1, []), (1, .ifCond .ge 7, 3, [8]), (4, .iconst 0, 1, []), (5, .goto 15, 3, [20]), (8, .aload_n 0, 1, []), (9, .getfield 32, 3, []), (12, .iload_n 1, 1, []), (13, .iaload, 1, []), (14, .aload_n 0, 1, []), (15, .iload_n 1, 1, []), (16, .invokevirtual 105, 3, []), (19, .iadd, 1, []), (20, .ireturn, 1, [])]
theorem hCX7_endOf : ∀ q ∈ CX7_endOf, chk cX7_endOf q := by decide +kernel
theorem lCX7_endOf : lnk CX7_endOf = true := by decide +kernel
def CX7_endOfJob : CL := [(0, .aload_n 0, 1, []), (1, .iload_n 1, 1, []), (2, .iconst 2, 1, []), (3, .invokevirtual 69, 3, []), (6, .istore_n 2, 1, []), (7, .iload_n 2, 1, []), (8, .ifCond .ne 12, 3, [20]), (11, .aload_n 0, 1, []), (12, .iload_n 1, 1, []), (13, .iconst 0, 1, []), (14, .invokevirtual 69, 3, []), (17, .goto 14, 3, [31]), (20, .aload_n 0, 1, []), (21, .iconst 4, 1, []), (22, .iload_n 1, 1, []), (23, .imul, 1, []), (24, .iload_n 2, 1, []), (25, .iadd, 1, []), (26, .iconst 1, 1, []), (27, .isub, 1, []), (28, .invokevirtual 114, 3, []), (31, .ireturn, 1, [])]
theorem hCX7_endOfJob : ∀ q ∈ CX7_endOfJob, chk cX7_endOfJob q := by decide +kernel
theorem lCX7_endOfJob : lnk CX7_endOfJob = true := by decide +kernel
def CX7_exchange : CL := [(0, .bipush 49, 2, []), (2, .iconst 4, 1, []), (3, .iload_n 1, 1, []), (4, .imul, 1, []), (5, .iadd, 1, []), (6, .iload_n 2, 1, []), (7, .iadd, 1, []), (8, .istore_n 3, 1, []), (9, .aload_n 0, 1, []), (10, .getfield 7, 3, []), (13, .iload_n 3, 1, []), (14, .iaload, 1, []), (15, .istore 4, 2, []), (17, .aload_n 0, 1, []), (18, .getfield 7, 3, []), (21, .iload_n 3, 1, []), (22, .aload_n 0, 1, []), (23, .getfield 7, 3, []), (26, .iload_n 3, 1, []), (27, .iconst 1, 1, []), (28, .iadd, 1, []), (29, .iaload, 1, []), (30, .iastore, 1, []), (31, .aload_n 0, 1, []), (32, .getfield 7, 3, []), (35, .iload_n 3, 1, []), (36, .iconst 1, 1, []), (37, .iadd, 1, []), (38, .iload 4, 2, []), (40, .iastore, 1, []), (41, .return_, 1, [])]
theorem hCX7_exchange : ∀ q ∈ CX7_exchange, chk cX7_exchange q := by decide +kernel
theorem lCX7_exchange : lnk CX7_exchange = true := by decide +kernel
def CX7_fault : CL := [(0, .iload_n 1, 1, []), (1, .iconst 0, 1, []), (2, .iconst 1, 1, []), (3, .invokestatic 87, 3, []), (6, .ifCond .eq 11, 3, [17]), (9, .aload_n 0, 1, []), (10, .iload_n 1, 1, []), (11, .invokevirtual 296, 3, []), (14, .goto 5, 3, [19]), (17, .bipush (-2), 2, []), (19, .ireturn, 1, [])]
theorem hCX7_fault : ∀ q ∈ CX7_fault, chk cX7_fault q := by decide +kernel
theorem lCX7_fault : lnk CX7_fault = true := by decide +kernel
def CX7_faultOf : CL := [(0, .aload_n 0, 1, []), (1, .iconst 0, 1, []), (2, .putfield 262, 3, []), (5, .aload_n 0, 1, []), (6, .iconst 0, 1, []), (7, .putfield 265, 3, []), (10, .aload_n 0, 1, []), (11, .iconst 0, 1, []), (12, .putfield 272, 3, []), (15, .aload_n 0, 1, []), (16, .iconst 0, 1, []), (17, .putfield 284, 3, []), (20, .aload_n 0, 1, []), (21, .iload_n 1, 1, []), (22, .invokevirtual 293, 3, []), (25, .aload_n 0, 1, []), (26, .getfield 265, 3, []), (29, .ifCond .ne 38, 3, [67]), (32, .aload_n 0, 1, []), (33, .invokevirtual 269, 3, []), (36, .bipush 59, 2, []), (38, .if_icmp .ne 29, 3, [67]), (41, .aload_n 0, 1, []), (42, .getfield 272, 3, []), (45, .iconst 4, 1, []), (46, .if_icmp .ge 21, 3, [67]), (49, .aload_n 0, 1, []), (50, .dup, 1, []), (51, .getfield 262, 3, []), (54, .iconst 1, 1, []), (55, .iadd, 1, []), (56, .putfield 262, 3, []), (59, .aload_n 0, 1, []), (60, .iload_n 1, 1, []), (61, .invokevirtual 293, 3, []), (64, .goto (-39), 3, [25]), (67, .aload_n 0, 1, []), (68, .getfield 265, 3, []), (71, .ifCond .ne 14, 3, [85]), (74, .aload_n 0, 1, []), (75, .getfield 262, 3, []), (78, .aload_n 0, 1, []), (79, .getfield 224, 3, []), (82, .if_icmp .ge 10, 3, [92]), (85, .aload_n 0, 1, []), (86, .getfield 262, 3, []), (89, .goto 5, 3, [94]), (92, .bipush (-6), 2, []), (94, .ireturn, 1, [])]
theorem hCX7_faultOf : ∀ q ∈ CX7_faultOf, chk cX7_faultOf q := by decide +kernel
theorem lCX7_faultOf : lnk CX7_faultOf = true := by decide +kernel
def CX7_find : CL := [(0, .aload_n 0, 1, []), (1, .invokevirtual 130, 3, []), (4, .aload_n 0, 1, []), (5, .iconst 4, 1, []), (6, .invokevirtual 133, 3, []), (9, .ifCond .ne 5, 3, [14]), (12, .iconst 0, 1, []), (13, .ireturn, 1, []), (14, .aload_n 0, 1, []), (15, .invokevirtual 136, 3, []), (18, .iconst 1, 1, []), (19, .ireturn, 1, [])]
theorem hCX7_find : ∀ q ∈ CX7_find, chk cX7_find q := by decide +kernel
theorem lCX7_find : lnk CX7_find = true := by decide +kernel
def CX7_findBest : CL := [(0, .aload_n 0, 1, []), (1, .invokevirtual 179, 3, []), (4, .aload_n 0, 1, []), (5, .invokevirtual 130, 3, []), (8, .iconst 0, 1, []), (9, .istore_n 1, 1, []), (10, .iload_n 1, 1, []), (11, .iconst 4, 1, []), (12, .if_icmp .ge 15, 3, [27]), (15, .aload_n 0, 1, []), (16, .iload_n 1, 1, []), (17, .iconst 0, 1, []), (18, .invokevirtual 182, 3, []), (21, .iinc 1 1, 3, []), (24, .goto (-14), 3, [10]), (27, .aload_n 0, 1, []), (28, .invokevirtual 185, 3, []), (31, .istore_n 1, 1, []), (32, .aload_n 0, 1, []), (33, .aload_n 0, 1, []), (34, .getfield 53, 3, []), (37, .invokevirtual 188, 3, []), (40, .iload_n 1, 1, []), (41, .ireturn, 1, [])]
theorem hCX7_findBest : ∀ q ∈ CX7_findBest, chk cX7_findBest q := by decide +kernel
theorem lCX7_findBest : lnk CX7_findBest = true := by decide +kernel
def CX7_findCritical : CL := [(0, .aload_n 0, 1, []), (1, .iconst 0, 1, []), (2, .putfield 153, 3, []), (5, .bipush (-6), 2, []), (7, .istore_n 1, 1, []), (8, .bipush 15, 2, []), (10, .istore_n 2, 1, []), (11, .iload_n 2, 1, []), (12, .ifCond .lt 48, 3, [60]), (15, .aload_n 0, 1, []), (16, .iload_n 2, 1, []), (17, .invokevirtual 102, 3, []), (20, .ifCond .eq 32, 3, [52]), (23, .aload_n 0, 1, []), (24, .iload_n 2, 1, []), (25, .invokevirtual 150, 3, []), (28, .ifCond .eq 24, 3, [52]), (31, .aload_n 0, 1, []), (32, .getfield 32, 3, []), (35, .iload_n 2, 1, []), (36, .iaload, 1, []), (37, .aload_n 0, 1, []), (38, .iload_n 2, 1, []), (39, .iconst 4, 1, []), (40, .idiv, 1, []), (41, .iconst 0, 1, []), (42, .invokevirtual 69, 3, []), (45, .if_icmp .ne 7, 3, [52]), (48, .iload_n 2, 1, []), (49, .goto 4, 3, [53]), (52, .iload_n 1, 1, []), (53, .istore_n 1, 1, []), (54, .iinc 2 (-1), 3, []), (57, .goto (-46), 3, [11]), (60, .iload_n 1, 1, []), (61, .ifCond .lt 78, 3, [139]), (64, .aload_n 0, 1, []), (65, .getfield 38, 3, []), (68, .aload_n 0, 1, []), (69, .getfield 153, 3, []), (72, .iload_n 1, 1, []), (73, .iastore, 1, []), (74, .aload_n 0, 1, []), (75, .dup, 1, []), (76, .getfield 153, 3, []), (79, .iconst 1, 1, []), (80, .iadd, 1, []), (81, .putfield 153, 3, []), (84, .aload_n 0, 1, []), (85, .iload_n 1, 1, []), (86, .invokevirtual 124, 3, []), (89, .istore_n 2, 1, []), (90, .aload_n 0, 1, []), (91, .aload_n 0, 1, []), (92, .iload_n 1, 1, []), (93, .invokevirtual 73, 3, []), (96, .aload_n 0, 1, []), (97, .iload_n 1, 1, []), (98, .invokevirtual 156, 3, []), (101, .iconst 1, 1, []), (102, .iadd, 1, []), (103, .invokevirtual 117, 3, []), (106, .istore_n 3, 1, []), (107, .aload_n 0, 1, []), (108, .iload_n 1, 1, []), (109, .iload_n 2, 1, []), (110, .invokevirtual 159, 3, []), (113, .ifCond .eq 7, 3, [120]), (116, .iload_n 2, 1, []), (117, .goto 18, 3, [135]), (120, .aload_n 0, 1, []), (121, .iload_n 1, 1, []), (122, .iload_n 3, 1, []), (123, .invokevirtual 159, 3, []), (126, .ifCond .eq 7, 3, [133]), (129, .iload_n 3, 1, []), (130, .goto 5, 3, [135]), (133, .bipush (-6), 2, []), (135, .istore_n 1, 1, []), (136, .goto (-76), 3, [60]), (139, .return_, 1, [])]
theorem hCX7_findCritical : ∀ q ∈ CX7_findCritical, chk cX7_findCritical q := by decide +kernel
theorem lCX7_findCritical : lnk CX7_findCritical = true := by decide +kernel
def CX7_findForced : CL := [(0, .iconst 0, 1, []), (1, .istore_n 1, 1, []), (2, .iload_n 1, 1, []), (3, .bipush 16, 2, []), (5, .if_icmp .ge 23, 3, [28]), (8, .aload_n 0, 1, []), (9, .getfield 32, 3, []), (12, .iload_n 1, 1, []), (13, .iconst 0, 1, []), (14, .iastore, 1, []), (15, .aload_n 0, 1, []), (16, .getfield 35, 3, []), (19, .iload_n 1, 1, []), (20, .iconst 0, 1, []), (21, .iastore, 1, []), (22, .iinc 1 1, 3, []), (25, .goto (-23), 3, [2]), (28, .iconst 1, 1, []), (29, .istore_n 1, 1, []), (30, .iconst 0, 1, []), (31, .istore_n 2, 1, []), (32, .iload_n 1, 1, []), (33, .ifCond .eq 99, 3, [132]), (36, .iload_n 2, 1, []), (37, .bipush 17, 2, []), (39, .if_icmp .gt 93, 3, [132]), (42, .iconst 0, 1, []), (43, .istore_n 1, 1, []), (44, .iconst 0, 1, []), (45, .istore_n 3, 1, []), (46, .iload_n 3, 1, []), (47, .bipush 16, 2, []), (49, .if_icmp .ge 77, 3, [126]), (52, .aload_n 0, 1, []), (53, .iload_n 3, 1, []), (54, .invokevirtual 102, 3, []), (57, .ifCond .eq 63, 3, [120]), (60, .aload_n 0, 1, []), (61, .iload_n 3, 1, []), (62, .invokevirtual 242, 3, []), (65, .istore 4, 2, []), (67, .aload_n 0, 1, []), (68, .iload_n 3, 1, []), (69, .invokevirtual 245, 3, []), (72, .istore 5, 2, []), (74, .iload_n 1, 1, []), (75, .iload 4, 2, []), (77, .aload_n 0, 1, []), (78, .getfield 32, 3, []), (81, .iload_n 3, 1, []), (82, .iaload, 1, []), (83, .if_icmp .gt 14, 3, [97]), (86, .iload 5, 2, []), (88, .aload_n 0, 1, []), (89, .getfield 35, 3, []), (92, .iload_n 3, 1, []), (93, .iaload, 1, []), (94, .if_icmp .le 7, 3, [101]), (97, .iconst 1, 1, []), (98, .goto 4, 3, [102]), (101, .iconst 0, 1, []), (102, .ior, 1, []), (103, .istore_n 1, 1, []), (104, .aload_n 0, 1, []), (105, .getfield 32, 3, []), (108, .iload_n 3, 1, []), (109, .iload 4, 2, []), (111, .iastore, 1, []), (112, .aload_n 0, 1, []), (113, .getfield 35, 3, []), (116, .iload_n 3, 1, []), (117, .iload 5, 2, []), (119, .iastore, 1, []), (120, .iinc 3 1, 3, []), (123, .goto (-77), 3, [46]), (126, .iinc 2 1, 3, []), (129, .goto (-97), 3, [32]), (132, .iload_n 1, 1, []), (133, .ifCond .ne 7, 3, [140]), (136, .iconst 1, 1, []), (137, .goto 4, 3, [141]), (140, .iconst 0, 1, []), (141, .ireturn, 1, [])]
theorem hCX7_findForced : ∀ q ∈ CX7_findForced, chk cX7_findForced q := by decide +kernel
theorem lCX7_findForced : lnk CX7_findForced = true := by decide +kernel
def CX7_findHeads : CL := [(0, .iconst 0, 1, []), (1, .istore_n 2, 1, []), (2, .iload_n 2, 1, []), (3, .bipush 16, 2, []), (5, .if_icmp .ge 34, 3, [39]), (8, .aload_n 0, 1, []), (9, .getfield 32, 3, []), (12, .iload_n 2, 1, []), (13, .aload_n 0, 1, []), (14, .getfield 29, 3, []), (17, .iload_n 2, 1, []), (18, .baload, 1, []), (19, .ifCond .eq 12, 3, [31]), (22, .aload_n 0, 1, []), (23, .getfield 32, 3, []), (26, .iload_n 2, 1, []), (27, .iaload, 1, []), (28, .goto 4, 3, [32]), (31, .iconst 0, 1, []), (32, .iastore, 1, []), (33, .iinc 2 1, 3, []), (36, .goto (-34), 3, [2]), (39, .iconst 1, 1, []), (40, .istore_n 2, 1, []), (41, .iconst 0, 1, []), (42, .istore_n 3, 1, []), (43, .iload_n 2, 1, []), (44, .ifCond .eq 92, 3, [136]), (47, .iload_n 3, 1, []), (48, .bipush 17, 2, []), (50, .if_icmp .gt 86, 3, [136]), (53, .iconst 0, 1, []), (54, .istore_n 2, 1, []), (55, .iconst 0, 1, []), (56, .istore 4, 2, []), (58, .iload 4, 2, []), (60, .iconst 4, 1, []), (61, .if_icmp .ge 69, 3, [130]), (64, .iconst 0, 1, []), (65, .istore 5, 2, []), (67, .iload 5, 2, []), (69, .aload_n 0, 1, []), (70, .getfield 7, 3, []), (73, .bipush 45, 2, []), (75, .iload 4, 2, []), (77, .iadd, 1, []), (78, .iaload, 1, []), (79, .if_icmp .ge 45, 3, [124]), (82, .iload_n 2, 1, []), (83, .aload_n 0, 1, []), (84, .aload_n 0, 1, []), (85, .iload 4, 2, []), (87, .iload 5, 2, []), (89, .invokevirtual 117, 3, []), (92, .iload 4, 2, []), (94, .iload_n 1, 1, []), (95, .if_icmp .ge 16, 3, [111]), (98, .aload_n 0, 1, []), (99, .iload 4, 2, []), (101, .iload 5, 2, []), (103, .iconst 1, 1, []), (104, .isub, 1, []), (105, .invokevirtual 117, 3, []), (108, .goto 5, 3, [113]), (111, .bipush (-6), 2, []), (113, .invokevirtual 120, 3, []), (116, .ior, 1, []), (117, .istore_n 2, 1, []), (118, .iinc 5 1, 3, []), (121, .goto (-54), 3, [67]), (124, .iinc 4 1, 3, []), (127, .goto (-69), 3, [58]), (130, .iinc 3 1, 3, []), (133, .goto (-90), 3, [43]), (136, .iload_n 2, 1, []), (137, .ifCond .ne 7, 3, [144]), (140, .iconst 1, 1, []), (141, .goto 4, 3, [145]), (144, .iconst 0, 1, []), (145, .ireturn, 1, [])]
theorem hCX7_findHeads : ∀ q ∈ CX7_findHeads, chk cX7_findHeads q := by decide +kernel
theorem lCX7_findHeads : lnk CX7_findHeads = true := by decide +kernel
def CX7_findTails : CL := [(0, .iconst 0, 1, []), (1, .istore_n 1, 1, []), (2, .iload_n 1, 1, []), (3, .bipush 16, 2, []), (5, .if_icmp .ge 16, 3, [21]), (8, .aload_n 0, 1, []), (9, .getfield 35, 3, []), (12, .iload_n 1, 1, []), (13, .iconst 0, 1, []), (14, .iastore, 1, []), (15, .iinc 1 1, 3, []), (18, .goto (-16), 3, [2]), (21, .iconst 1, 1, []), (22, .istore_n 1, 1, []), (23, .iload_n 1, 1, []), (24, .ifCond .eq 106, 3, [130]), (27, .iconst 0, 1, []), (28, .istore_n 1, 1, []), (29, .iconst 0, 1, []), (30, .istore_n 2, 1, []), (31, .iload_n 2, 1, []), (32, .iconst 4, 1, []), (33, .if_icmp .ge 94, 3, [127]), (36, .iconst 0, 1, []), (37, .istore_n 3, 1, []), (38, .iload_n 3, 1, []), (39, .aload_n 0, 1, []), (40, .getfield 7, 3, []), (43, .bipush 45, 2, []), (45, .iload_n 2, 1, []), (46, .iadd, 1, []), (47, .iaload, 1, []), (48, .if_icmp .ge 73, 3, [121]), (51, .aload_n 0, 1, []), (52, .iload_n 2, 1, []), (53, .iload_n 3, 1, []), (54, .invokevirtual 117, 3, []), (57, .istore 4, 2, []), (59, .aload_n 0, 1, []), (60, .aload_n 0, 1, []), (61, .iload 4, 2, []), (63, .invokevirtual 124, 3, []), (66, .invokevirtual 127, 3, []), (69, .aload_n 0, 1, []), (70, .aload_n 0, 1, []), (71, .iload_n 2, 1, []), (72, .iload_n 3, 1, []), (73, .iconst 1, 1, []), (74, .iadd, 1, []), (75, .invokevirtual 117, 3, []), (78, .invokevirtual 127, 3, []), (81, .invokestatic 108, 3, []), (84, .istore 5, 2, []), (86, .iload_n 1, 1, []), (87, .iload 5, 2, []), (89, .aload_n 0, 1, []), (90, .getfield 35, 3, []), (93, .iload 4, 2, []), (95, .iaload, 1, []), (96, .if_icmp .le 7, 3, [103]), (99, .iconst 1, 1, []), (100, .goto 4, 3, [104]), (103, .iconst 0, 1, []), (104, .ior, 1, []), (105, .istore_n 1, 1, []), (106, .aload_n 0, 1, []), (107, .getfield 35, 3, []), (110, .iload 4, 2, []), (112, .iload 5, 2, []), (114, .iastore, 1, []), (115, .iinc 3 1, 3, []), (118, .goto (-80), 3, [38]), (121, .iinc 2 1, 3, []), (124, .goto (-93), 3, [31]), (127, .goto (-104), 3, [23]), (130, .return_, 1, [])]
theorem hCX7_findTails : ∀ q ∈ CX7_findTails, chk cX7_findTails q := by decide +kernel
theorem lCX7_findTails : lnk CX7_findTails = true := by decide +kernel
def CX7_fitsOrder : CL := [(0, .aload_n 0, 1, []), (1, .getfield 62, 3, []), (4, .iload_n 1, 1, []), (5, .iaload, 1, []), (6, .istore_n 2, 1, []), (7, .aload_n 0, 1, []), (8, .getfield 62, 3, []), (11, .iload_n 1, 1, []), (12, .iconst 1, 1, []), (13, .iadd, 1, []), (14, .iaload, 1, []), (15, .aload_n 0, 1, []), (16, .getfield 7, 3, []), (19, .bipush 45, 2, []), (21, .iload_n 2, 1, []), (22, .iadd, 1, []), (23, .iaload, 1, []), (24, .if_icmp .ne 7, 3, [31]), (27, .iconst 1, 1, []), (28, .goto 4, 3, [32]), (31, .iconst 0, 1, []), (32, .istore_n 3, 1, []), (33, .iconst 0, 1, []), (34, .istore 4, 2, []), (36, .iload 4, 2, []), (38, .aload_n 0, 1, []), (39, .getfield 62, 3, []), (42, .iload_n 1, 1, []), (43, .iconst 1, 1, []), (44, .iadd, 1, []), (45, .iaload, 1, []), (46, .if_icmp .ge 51, 3, [97]), (49, .aload_n 0, 1, []), (50, .getfield 62, 3, []), (53, .iload_n 1, 1, []), (54, .iconst 2, 1, []), (55, .iadd, 1, []), (56, .iload 4, 2, []), (58, .iadd, 1, []), (59, .iaload, 1, []), (60, .istore 5, 2, []), (62, .iload_n 3, 1, []), (63, .ifCond .eq 26, 3, [89]), (66, .aload_n 0, 1, []), (67, .iload 5, 2, []), (69, .invokevirtual 65, 3, []), (72, .ifCond .eq 17, 3, [89]), (75, .aload_n 0, 1, []), (76, .iload 5, 2, []), (78, .iload_n 2, 1, []), (79, .invokevirtual 80, 3, []), (82, .ifCond .lt 7, 3, [89]), (85, .iconst 1, 1, []), (86, .goto 4, 3, [90]), (89, .iconst 0, 1, []), (90, .istore_n 3, 1, []), (91, .iinc 4 1, 3, []), (94, .goto (-58), 3, [36]), (97, .iload_n 3, 1, []), (98, .ireturn, 1, [])]
theorem hCX7_fitsOrder : ∀ q ∈ CX7_fitsOrder, chk cX7_fitsOrder q := by decide +kernel
theorem lCX7_fitsOrder : lnk CX7_fitsOrder = true := by decide +kernel
def CX7_force : CL := [(0, .iconst 0, 1, []), (1, .istore_n 2, 1, []), (2, .iload_n 2, 1, []), (3, .bipush 16, 2, []), (5, .if_icmp .ge 16, 3, [21]), (8, .aload_n 0, 1, []), (9, .getfield 59, 3, []), (12, .iload_n 2, 1, []), (13, .iconst 0, 1, []), (14, .iastore, 1, []), (15, .iinc 2 1, 3, []), (18, .goto (-16), 3, [2]), (21, .iconst 1, 1, []), (22, .istore_n 2, 1, []), (23, .iload_n 2, 1, []), (24, .ifCond .eq 132, 3, [156]), (27, .aload_n 0, 1, []), (28, .invokevirtual 248, 3, []), (31, .ifCond .ne 5, 3, [36]), (34, .iconst 0, 1, []), (35, .ireturn, 1, []), (36, .iconst 0, 1, []), (37, .istore_n 2, 1, []), (38, .iconst 0, 1, []), (39, .istore_n 3, 1, []), (40, .iload_n 3, 1, []), (41, .bipush 16, 2, []), (43, .if_icmp .ge 100, 3, [143]), (46, .aload_n 0, 1, []), (47, .iload_n 3, 1, []), (48, .invokevirtual 102, 3, []), (51, .ifCond .eq 14, 3, [65]), (54, .aload_n 0, 1, []), (55, .iload_n 3, 1, []), (56, .invokevirtual 147, 3, []), (59, .iload_n 1, 1, []), (60, .if_icmp .le 5, 3, [65]), (63, .iconst 0, 1, []), (64, .ireturn, 1, []), (65, .iconst 0, 1, []), (66, .istore 4, 2, []), (68, .iload 4, 2, []), (70, .bipush 16, 2, []), (72, .if_icmp .ge 65, 3, [137]), (75, .aload_n 0, 1, []), (76, .iload_n 3, 1, []), (77, .iload 4, 2, []), (79, .invokevirtual 251, 3, []), (82, .ifCond .eq 49, 3, [131]), (85, .aload_n 0, 1, []), (86, .iload_n 3, 1, []), (87, .invokevirtual 114, 3, []), (90, .aload_n 0, 1, []), (91, .iload 4, 2, []), (93, .invokevirtual 127, 3, []), (96, .iadd, 1, []), (97, .iload_n 1, 1, []), (98, .if_icmp .le 33, 3, [131]), (101, .aload_n 0, 1, []), (102, .aload_n 0, 1, []), (103, .getfield 59, 3, []), (106, .iload_n 3, 1, []), (107, .iaload, 1, []), (108, .iload 4, 2, []), (110, .invokevirtual 239, 3, []), (113, .ifCond .ne 18, 3, [131]), (116, .aload_n 0, 1, []), (117, .getfield 59, 3, []), (120, .iload_n 3, 1, []), (121, .dup2, 1, []), (122, .iaload, 1, []), (123, .iconst 1, 1, []), (124, .iload 4, 2, []), (126, .ishl, 1, []), (127, .ior, 1, []), (128, .iastore, 1, []), (129, .iconst 1, 1, []), (130, .istore_n 2, 1, []), (131, .iinc 4 1, 3, []), (134, .goto (-66), 3, [68]), (137, .iinc 3 1, 3, []), (140, .goto (-100), 3, [40]), (143, .iload_n 2, 1, []), (144, .ifCond .eq (-121), 3, [23]), (147, .aload_n 0, 1, []), (148, .invokevirtual 254, 3, []), (151, .ifCond .eq (-128), 3, [23]), (154, .iconst 0, 1, []), (155, .ireturn, 1, []), (156, .iconst 1, 1, []), (157, .ireturn, 1, [])]
theorem hCX7_force : ∀ q ∈ CX7_force, chk cX7_force q := by decide +kernel
theorem lCX7_force : lnk CX7_force = true := by decide +kernel
def CX7_forced : CL := [(0, .iload_n 1, 1, []), (1, .iconst 0, 1, []), (2, .sipush 500, 3, []), (5, .invokestatic 87, 3, []), (8, .ifCond .ne 6, 3, [14]), (11, .bipush (-2), 2, []), (13, .ireturn, 1, []), (14, .aload_n 0, 1, []), (15, .iload_n 1, 1, []), (16, .invokevirtual 257, 3, []), (19, .ifCond .ne 6, 3, [25]), (22, .bipush (-6), 2, []), (24, .ireturn, 1, []), (25, .iconst 0, 1, []), (26, .istore_n 2, 1, []), (27, .iconst 0, 1, []), (28, .istore_n 3, 1, []), (29, .iload_n 3, 1, []), (30, .bipush 16, 2, []), (32, .if_icmp .ge 48, 3, [80]), (35, .iconst 0, 1, []), (36, .istore 4, 2, []), (38, .iload 4, 2, []), (40, .bipush 16, 2, []), (42, .if_icmp .ge 32, 3, [74]), (45, .iload_n 2, 1, []), (46, .aload_n 0, 1, []), (47, .aload_n 0, 1, []), (48, .getfield 59, 3, []), (51, .iload_n 3, 1, []), (52, .iaload, 1, []), (53, .iload 4, 2, []), (55, .invokevirtual 239, 3, []), (58, .ifCond .eq 7, 3, [65]), (61, .iconst 1, 1, []), (62, .goto 4, 3, [66]), (65, .iconst 0, 1, []), (66, .iadd, 1, []), (67, .istore_n 2, 1, []), (68, .iinc 4 1, 3, []), (71, .goto (-33), 3, [38]), (74, .iinc 3 1, 3, []), (77, .goto (-48), 3, [29]), (80, .iload_n 2, 1, []), (81, .ireturn, 1, [])]
theorem hCX7_forced : ∀ q ∈ CX7_forced, chk cX7_forced q := by decide +kernel
theorem lCX7_forced : lnk CX7_forced = true := by decide +kernel
def CX7_foundAt : CL := [(0, .iload_n 2, 1, []), (1, .ifCond .lt 16, 3, [17]), (4, .iload_n 2, 1, []), (5, .aload_n 0, 1, []), (6, .getfield 7, 3, []), (9, .bipush 45, 2, []), (11, .iload_n 1, 1, []), (12, .iadd, 1, []), (13, .iaload, 1, []), (14, .if_icmp .lt 8, 3, [22]), (17, .bipush (-6), 2, []), (19, .goto 13, 3, [32]), (22, .aload_n 0, 1, []), (23, .getfield 50, 3, []), (26, .iconst 4, 1, []), (27, .iload_n 1, 1, []), (28, .imul, 1, []), (29, .iload_n 2, 1, []), (30, .iadd, 1, []), (31, .iaload, 1, []), (32, .ireturn, 1, [])]
theorem hCX7_foundAt : ∀ q ∈ CX7_foundAt, chk cX7_foundAt q := by decide +kernel
theorem lCX7_foundAt : lnk CX7_foundAt = true := by decide +kernel
def CX7_goesOn : CL := [(0, .iload_n 2, 1, []), (1, .ifCond .lt 29, 3, [30]), (4, .aload_n 0, 1, []), (5, .iload_n 2, 1, []), (6, .invokevirtual 150, 3, []), (9, .ifCond .eq 21, 3, [30]), (12, .aload_n 0, 1, []), (13, .getfield 32, 3, []), (16, .iload_n 2, 1, []), (17, .iaload, 1, []), (18, .aload_n 0, 1, []), (19, .iload_n 1, 1, []), (20, .invokevirtual 114, 3, []), (23, .if_icmp .ne 7, 3, [30]), (26, .iconst 1, 1, []), (27, .goto 4, 3, [31]), (30, .iconst 0, 1, []), (31, .ireturn, 1, [])]
theorem hCX7_goesOn : ∀ q ∈ CX7_goesOn, chk cX7_goesOn q := by decide +kernel
theorem lCX7_goesOn : lnk CX7_goesOn = true := by decide +kernel
def CX7_greater : CL := [(0, .iload_n 0, 1, []), (1, .iload_n 1, 1, []), (2, .if_icmp .le 7, 3, [9]), (5, .iload_n 0, 1, []), (6, .goto 4, 3, [10]), (9, .iload_n 1, 1, []), (10, .ireturn, 1, [])]
theorem hCX7_greater : ∀ q ∈ CX7_greater, chk cX7_greater q := by decide +kernel
theorem lCX7_greater : lnk CX7_greater = true := by decide +kernel
def CX7_headAlone : CL := [(0, .aload_n 0, 1, []), (1, .iload_n 1, 1, []), (2, .iconst 4, 1, []), (3, .idiv, 1, []), (4, .iconst 0, 1, []), (5, .invokevirtual 69, 3, []), (8, .istore_n 2, 1, []), (9, .iload_n 1, 1, []), (10, .iload_n 1, 1, []), (11, .iconst 4, 1, []), (12, .irem, 1, []), (13, .isub, 1, []), (14, .istore_n 3, 1, []), (15, .iload_n 3, 1, []), (16, .iload_n 1, 1, []), (17, .if_icmp .ge 17, 3, [34]), (20, .iload_n 2, 1, []), (21, .aload_n 0, 1, []), (22, .iload_n 3, 1, []), (23, .invokevirtual 105, 3, []), (26, .iadd, 1, []), (27, .istore_n 2, 1, []), (28, .iinc 3 1, 3, []), (31, .goto (-16), 3, [15]), (34, .iload_n 2, 1, []), (35, .ireturn, 1, [])]
theorem hCX7_headAlone : ∀ q ∈ CX7_headAlone, chk cX7_headAlone q := by decide +kernel
theorem lCX7_headAlone : lnk CX7_headAlone = true := by decide +kernel
def CX7_headBy : CL := [(0, .aload_n 0, 1, []), (1, .iload_n 1, 1, []), (2, .iconst 4, 1, []), (3, .idiv, 1, []), (4, .iconst 0, 1, []), (5, .invokevirtual 69, 3, []), (8, .aload_n 0, 1, []), (9, .aload_n 0, 1, []), (10, .iload_n 1, 1, []), (11, .invokevirtual 111, 3, []), (14, .invokevirtual 114, 3, []), (17, .invokestatic 108, 3, []), (20, .istore_n 2, 1, []), (21, .iconst 0, 1, []), (22, .istore_n 3, 1, []), (23, .iload_n 3, 1, []), (24, .bipush 16, 2, []), (26, .if_icmp .ge 37, 3, [63]), (29, .aload_n 0, 1, []), (30, .aload_n 0, 1, []), (31, .getfield 59, 3, []), (34, .iload_n 1, 1, []), (35, .iaload, 1, []), (36, .iload_n 3, 1, []), (37, .invokevirtual 239, 3, []), (40, .ifCond .eq 15, 3, [55]), (43, .iload_n 2, 1, []), (44, .aload_n 0, 1, []), (45, .iload_n 3, 1, []), (46, .invokevirtual 114, 3, []), (49, .invokestatic 108, 3, []), (52, .goto 4, 3, [56]), (55, .iload_n 2, 1, []), (56, .istore_n 2, 1, []), (57, .iinc 3 1, 3, []), (60, .goto (-37), 3, [23]), (63, .iload_n 2, 1, []), (64, .ireturn, 1, [])]
theorem hCX7_headBy : ∀ q ∈ CX7_headBy, chk cX7_headBy q := by decide +kernel
theorem lCX7_headBy : lnk CX7_headBy = true := by decide +kernel
def CX7_improve : CL := [(0, .aload_n 0, 1, []), (1, .invokevirtual 139, 3, []), (4, .ifCond .ne 6, 3, [10]), (7, .bipush (-5), 2, []), (9, .ireturn, 1, []), (10, .aload_n 0, 1, []), (11, .invokevirtual 165, 3, []), (14, .aload_n 0, 1, []), (15, .invokevirtual 143, 3, []), (18, .istore_n 1, 1, []), (19, .bipush (-6), 2, []), (21, .istore_n 2, 1, []), (22, .iconst 0, 1, []), (23, .istore_n 3, 1, []), (24, .iload_n 3, 1, []), (25, .iconst 1, 1, []), (26, .iadd, 1, []), (27, .aload_n 0, 1, []), (28, .getfield 153, 3, []), (31, .if_icmp .ge 99, 3, [130]), (34, .aload_n 0, 1, []), (35, .aload_n 0, 1, []), (36, .getfield 38, 3, []), (39, .iload_n 3, 1, []), (40, .iaload, 1, []), (41, .invokevirtual 73, 3, []), (44, .istore 4, 2, []), (46, .aload_n 0, 1, []), (47, .aload_n 0, 1, []), (48, .getfield 38, 3, []), (51, .iload_n 3, 1, []), (52, .iconst 1, 1, []), (53, .iadd, 1, []), (54, .iaload, 1, []), (55, .invokevirtual 73, 3, []), (58, .iload 4, 2, []), (60, .if_icmp .ne 64, 3, [124]), (63, .aload_n 0, 1, []), (64, .aload_n 0, 1, []), (65, .getfield 38, 3, []), (68, .iload_n 3, 1, []), (69, .iaload, 1, []), (70, .invokevirtual 156, 3, []), (73, .istore 5, 2, []), (75, .aload_n 0, 1, []), (76, .iload 4, 2, []), (78, .iload 5, 2, []), (80, .invokevirtual 162, 3, []), (83, .aload_n 0, 1, []), (84, .invokevirtual 130, 3, []), (87, .aload_n 0, 1, []), (88, .iconst 4, 1, []), (89, .invokevirtual 133, 3, []), (92, .ifCond .eq 24, 3, [116]), (95, .aload_n 0, 1, []), (96, .invokevirtual 143, 3, []), (99, .iload_n 1, 1, []), (100, .if_icmp .ge 16, 3, [116]), (103, .aload_n 0, 1, []), (104, .invokevirtual 143, 3, []), (107, .istore_n 1, 1, []), (108, .iconst 4, 1, []), (109, .iload 4, 2, []), (111, .imul, 1, []), (112, .iload 5, 2, []), (114, .iadd, 1, []), (115, .istore_n 2, 1, []), (116, .aload_n 0, 1, []), (117, .iload 4, 2, []), (119, .iload 5, 2, []), (121, .invokevirtual 162, 3, []), (124, .iinc 3 1, 3, []), (127, .goto (-103), 3, [24]), (130, .iload_n 2, 1, []), (131, .ifCond .ge 6, 3, [137]), (134, .bipush (-5), 2, []), (136, .ireturn, 1, []), (137, .aload_n 0, 1, []), (138, .invokevirtual 91, 3, []), (141, .aload_n 0, 1, []), (142, .iload_n 2, 1, []), (143, .iconst 4, 1, []), (144, .idiv, 1, []), (145, .iload_n 2, 1, []), (146, .iconst 4, 1, []), (147, .irem, 1, []), (148, .invokevirtual 162, 3, []), (151, .iload_n 1, 1, []), (152, .ireturn, 1, [])]
theorem hCX7_improve : ∀ q ∈ CX7_improve, chk cX7_improve q := by decide +kernel
theorem lCX7_improve : lnk CX7_improve = true := by decide +kernel
def CX7_in : CL := [(0, .iload_n 0, 1, []), (1, .iload_n 1, 1, []), (2, .if_icmp .lt 12, 3, [14]), (5, .iload_n 0, 1, []), (6, .iload_n 2, 1, []), (7, .if_icmp .gt 7, 3, [14]), (10, .iconst 1, 1, []), (11, .goto 4, 3, [15]), (14, .iconst 0, 1, []), (15, .ireturn, 1, [])]
theorem hCX7_in : ∀ q ∈ CX7_in, chk cX7_in q := by decide +kernel
theorem lCX7_in : lnk CX7_in = true := by decide +kernel
def CX7_isCritical : CL := [(0, .aload_n 0, 1, []), (1, .iload_n 1, 1, []), (2, .invokevirtual 147, 3, []), (5, .aload_n 0, 1, []), (6, .invokevirtual 143, 3, []), (9, .if_icmp .ne 7, 3, [16]), (12, .iconst 1, 1, []), (13, .goto 4, 3, [17]), (16, .iconst 0, 1, []), (17, .ireturn, 1, [])]
theorem hCX7_isCritical : ∀ q ∈ CX7_isCritical, chk cX7_isCritical q := by decide +kernel
theorem lCX7_isCritical : lnk CX7_isCritical = true := by decide +kernel
def CX7_isForced : CL := [(0, .aload_n 0, 1, []), (1, .iload_n 2, 1, []), (2, .invokevirtual 102, 3, []), (5, .ifCond .eq 11, 3, [16]), (8, .aload_n 0, 1, []), (9, .iload_n 3, 1, []), (10, .invokevirtual 102, 3, []), (13, .ifCond .ne 5, 3, [18]), (16, .iconst (-1), 1, []), (17, .ireturn, 1, []), (18, .iload_n 1, 1, []), (19, .iconst 0, 1, []), (20, .sipush 500, 3, []), (23, .invokestatic 87, 3, []), (26, .ifCond .eq 12, 3, [38]), (29, .aload_n 0, 1, []), (30, .iload_n 2, 1, []), (31, .iload_n 3, 1, []), (32, .invokevirtual 251, 3, []), (35, .ifCond .ne 6, 3, [41]), (38, .bipush (-2), 2, []), (40, .ireturn, 1, []), (41, .aload_n 0, 1, []), (42, .iload_n 1, 1, []), (43, .invokevirtual 257, 3, []), (46, .ifCond .ne 8, 3, [54]), (49, .bipush (-6), 2, []), (51, .goto 22, 3, [73]), (54, .aload_n 0, 1, []), (55, .aload_n 0, 1, []), (56, .getfield 59, 3, []), (59, .iload_n 3, 1, []), (60, .iaload, 1, []), (61, .iload_n 2, 1, []), (62, .invokevirtual 239, 3, []), (65, .ifCond .eq 7, 3, [72]), (68, .iconst 1, 1, []), (69, .goto 4, 3, [73]), (72, .iconst 0, 1, []), (73, .ireturn, 1, [])]
theorem hCX7_isForced : ∀ q ∈ CX7_isForced, chk cX7_isForced q := by decide +kernel
theorem lCX7_isForced : lnk CX7_isForced = true := by decide +kernel
def CX7_isForcedBoth : CL := [(0, .iconst 0, 1, []), (1, .istore_n 1, 1, []), (2, .iconst 0, 1, []), (3, .istore_n 2, 1, []), (4, .iload_n 2, 1, []), (5, .bipush 16, 2, []), (7, .if_icmp .ge 60, 3, [67]), (10, .iconst 0, 1, []), (11, .istore_n 3, 1, []), (12, .iload_n 3, 1, []), (13, .iload_n 2, 1, []), (14, .if_icmp .ge 47, 3, [61]), (17, .iload_n 1, 1, []), (18, .ifCond .ne 31, 3, [49]), (21, .aload_n 0, 1, []), (22, .aload_n 0, 1, []), (23, .getfield 59, 3, []), (26, .iload_n 2, 1, []), (27, .iaload, 1, []), (28, .iload_n 3, 1, []), (29, .invokevirtual 239, 3, []), (32, .ifCond .eq 21, 3, [53]), (35, .aload_n 0, 1, []), (36, .aload_n 0, 1, []), (37, .getfield 59, 3, []), (40, .iload_n 3, 1, []), (41, .iaload, 1, []), (42, .iload_n 2, 1, []), (43, .invokevirtual 239, 3, []), (46, .ifCond .eq 7, 3, [53]), (49, .iconst 1, 1, []), (50, .goto 4, 3, [54]), (53, .iconst 0, 1, []), (54, .istore_n 1, 1, []), (55, .iinc 3 1, 3, []), (58, .goto (-46), 3, [12]), (61, .iinc 2 1, 3, []), (64, .goto (-60), 3, [4]), (67, .iload_n 1, 1, []), (68, .ireturn, 1, [])]
theorem hCX7_isForcedBoth : ∀ q ∈ CX7_isForcedBoth, chk cX7_isForcedBoth q := by decide +kernel
theorem lCX7_isForcedBoth : lnk CX7_isForcedBoth = true := by decide +kernel
def CX7_isJob : CL := [(0, .iload_n 1, 1, []), (1, .ifCond .lt 17, 3, [18]), (4, .iload_n 1, 1, []), (5, .aload_n 0, 1, []), (6, .getfield 7, 3, []), (9, .iconst 0, 1, []), (10, .iaload, 1, []), (11, .if_icmp .ge 7, 3, [18]), (14, .iconst 1, 1, []), (15, .goto 4, 3, [19]), (18, .iconst 0, 1, []), (19, .ireturn, 1, [])]
theorem hCX7_isJob : ∀ q ∈ CX7_isJob, chk cX7_isJob q := by decide +kernel
theorem lCX7_isJob : lnk CX7_isJob = true := by decide +kernel
def CX7_isOperation : CL := [(0, .iload_n 1, 1, []), (1, .ifCond .lt 31, 3, [32]), (4, .aload_n 0, 1, []), (5, .iload_n 1, 1, []), (6, .iconst 4, 1, []), (7, .idiv, 1, []), (8, .invokevirtual 65, 3, []), (11, .ifCond .eq 21, 3, [32]), (14, .iload_n 1, 1, []), (15, .iconst 4, 1, []), (16, .irem, 1, []), (17, .aload_n 0, 1, []), (18, .iload_n 1, 1, []), (19, .iconst 4, 1, []), (20, .idiv, 1, []), (21, .iconst 2, 1, []), (22, .invokevirtual 69, 3, []), (25, .if_icmp .ge 7, 3, [32]), (28, .iconst 1, 1, []), (29, .goto 4, 3, [33]), (32, .iconst 0, 1, []), (33, .ireturn, 1, [])]
theorem hCX7_isOperation : ∀ q ∈ CX7_isOperation, chk cX7_isOperation q := by decide +kernel
theorem lCX7_isOperation : lnk CX7_isOperation = true := by decide +kernel
def CX7_isSet : CL := [(0, .iload_n 1, 1, []), (1, .iload_n 2, 1, []), (2, .ishr, 1, []), (3, .iconst 1, 1, []), (4, .iand, 1, []), (5, .iconst 1, 1, []), (6, .if_icmp .ne 7, 3, [13]), (9, .iconst 1, 1, []), (10, .goto 4, 3, [14]), (13, .iconst 0, 1, []), (14, .ireturn, 1, [])]
theorem hCX7_isSet : ∀ q ∈ CX7_isSet, chk cX7_isSet q := by decide +kernel
theorem lCX7_isSet : lnk CX7_isSet = true := by decide +kernel
def CX7_job : CL := [(0, .iload_n 1, 1, []), (1, .iconst 0, 1, []), (2, .bipush 50, 2, []), (4, .invokestatic 87, 3, []), (7, .ifCond .eq 14, 3, [21]), (10, .iload_n 2, 1, []), (11, .iconst 0, 1, []), (12, .sipush 200, 3, []), (15, .invokestatic 87, 3, []), (18, .ifCond .ne 6, 3, [24]), (21, .bipush (-2), 2, []), (23, .ireturn, 1, []), (24, .aload_n 0, 1, []), (25, .getfield 7, 3, []), (28, .iconst 0, 1, []), (29, .iaload, 1, []), (30, .iconst 4, 1, []), (31, .if_icmp .ne 6, 3, [37]), (34, .bipush (-4), 2, []), (36, .ireturn, 1, []), (37, .aload_n 0, 1, []), (38, .invokevirtual 91, 3, []), (41, .aload_n 0, 1, []), (42, .iload_n 1, 1, []), (43, .iload_n 2, 1, []), (44, .invokevirtual 94, 3, []), (47, .aload_n 0, 1, []), (48, .getfield 7, 3, []), (51, .iconst 0, 1, []), (52, .iaload, 1, []), (53, .iconst 1, 1, []), (54, .isub, 1, []), (55, .ireturn, 1, [])]
theorem hCX7_job : ∀ q ∈ CX7_job, chk cX7_job q := by decide +kernel
theorem lCX7_job : lnk CX7_job = true := by decide +kernel
def CX7_jobAt : CL := [(0, .aload_n 0, 1, []), (1, .getfield 7, 3, []), (4, .bipush 49, 2, []), (6, .iconst 4, 1, []), (7, .iload_n 1, 1, []), (8, .imul, 1, []), (9, .iadd, 1, []), (10, .iload_n 2, 1, []), (11, .iadd, 1, []), (12, .iaload, 1, []), (13, .ireturn, 1, [])]
theorem hCX7_jobAt : ∀ q ∈ CX7_jobAt, chk cX7_jobAt q := by decide +kernel
theorem lCX7_jobAt : lnk CX7_jobAt = true := by decide +kernel
def CX7_keep : CL := [(0, .aload_n 0, 1, []), (1, .getfield 83, 3, []), (4, .bipush 6, 2, []), (6, .if_icmp .ne 43, 3, [49]), (9, .iconst 0, 1, []), (10, .istore_n 1, 1, []), (11, .iload_n 1, 1, []), (12, .sipush 325, 3, []), (15, .if_icmp .ge 24, 3, [39]), (18, .aload_n 0, 1, []), (19, .getfield 13, 3, []), (22, .iload_n 1, 1, []), (23, .aload_n 0, 1, []), (24, .getfield 13, 3, []), (27, .iload_n 1, 1, []), (28, .bipush 65, 2, []), (30, .iadd, 1, []), (31, .iaload, 1, []), (32, .iastore, 1, []), (33, .iinc 1 1, 3, []), (36, .goto (-25), 3, [11]), (39, .aload_n 0, 1, []), (40, .dup, 1, []), (41, .getfield 83, 3, []), (44, .iconst 1, 1, []), (45, .isub, 1, []), (46, .putfield 83, 3, []), (49, .iconst 0, 1, []), (50, .istore_n 1, 1, []), (51, .iload_n 1, 1, []), (52, .bipush 65, 2, []), (54, .if_icmp .ge 29, 3, [83]), (57, .aload_n 0, 1, []), (58, .getfield 13, 3, []), (61, .bipush 65, 2, []), (63, .aload_n 0, 1, []), (64, .getfield 83, 3, []), (67, .imul, 1, []), (68, .iload_n 1, 1, []), (69, .iadd, 1, []), (70, .aload_n 0, 1, []), (71, .getfield 7, 3, []), (74, .iload_n 1, 1, []), (75, .iaload, 1, []), (76, .iastore, 1, []), (77, .iinc 1 1, 3, []), (80, .goto (-29), 3, [51]), (83, .aload_n 0, 1, []), (84, .dup, 1, []), (85, .getfield 83, 3, []), (88, .iconst 1, 1, []), (89, .iadd, 1, []), (90, .putfield 83, 3, []), (93, .return_, 1, [])]
theorem hCX7_keep : ∀ q ∈ CX7_keep, chk cX7_keep q := by decide +kernel
theorem lCX7_keep : lnk CX7_keep = true := by decide +kernel
def CX7_keepFound : CL := [(0, .iconst 0, 1, []), (1, .istore_n 1, 1, []), (2, .iload_n 1, 1, []), (3, .bipush 16, 2, []), (5, .if_icmp .ge 24, 3, [29]), (8, .aload_n 0, 1, []), (9, .getfield 50, 3, []), (12, .iload_n 1, 1, []), (13, .aload_n 0, 1, []), (14, .getfield 7, 3, []), (17, .bipush 49, 2, []), (19, .iload_n 1, 1, []), (20, .iadd, 1, []), (21, .iaload, 1, []), (22, .iastore, 1, []), (23, .iinc 1 1, 3, []), (26, .goto (-24), 3, [2]), (29, .return_, 1, [])]
theorem hCX7_keepFound : ∀ q ∈ CX7_keepFound, chk cX7_keepFound q := by decide +kernel
theorem lCX7_keepFound : lnk CX7_keepFound = true := by decide +kernel
def CX7_keepOrders : CL := [(0, .iconst 0, 1, []), (1, .istore_n 1, 1, []), (2, .iload_n 1, 1, []), (3, .bipush 16, 2, []), (5, .if_icmp .ge 24, 3, [29]), (8, .aload_n 0, 1, []), (9, .getfield 53, 3, []), (12, .iload_n 1, 1, []), (13, .aload_n 0, 1, []), (14, .getfield 7, 3, []), (17, .bipush 49, 2, []), (19, .iload_n 1, 1, []), (20, .iadd, 1, []), (21, .iaload, 1, []), (22, .iastore, 1, []), (23, .iinc 1 1, 3, []), (26, .goto (-24), 3, [2]), (29, .return_, 1, [])]
theorem hCX7_keepOrders : ∀ q ∈ CX7_keepOrders, chk cX7_keepOrders q := by decide +kernel
theorem lCX7_keepOrders : lnk CX7_keepOrders = true := by decide +kernel
def CX7_lastEnd : CL := [(0, .iconst 0, 1, []), (1, .istore_n 1, 1, []), (2, .iconst 0, 1, []), (3, .istore_n 2, 1, []), (4, .iload_n 2, 1, []), (5, .bipush 16, 2, []), (7, .if_icmp .ge 31, 3, [38]), (10, .aload_n 0, 1, []), (11, .iload_n 2, 1, []), (12, .invokevirtual 102, 3, []), (15, .ifCond .eq 15, 3, [30]), (18, .iload_n 1, 1, []), (19, .aload_n 0, 1, []), (20, .iload_n 2, 1, []), (21, .invokevirtual 114, 3, []), (24, .invokestatic 108, 3, []), (27, .goto 4, 3, [31]), (30, .iload_n 1, 1, []), (31, .istore_n 1, 1, []), (32, .iinc 2 1, 3, []), (35, .goto (-31), 3, [4]), (38, .iload_n 1, 1, []), (39, .ireturn, 1, [])]
theorem hCX7_lastEnd : ∀ q ∈ CX7_lastEnd, chk cX7_lastEnd q := by decide +kernel
theorem lCX7_lastEnd : lnk CX7_lastEnd = true := by decide +kernel
def CX7_lasts : CL := [(0, .aload_n 0, 1, []), (1, .getfield 7, 3, []), (4, .bipush 13, 2, []), (6, .iconst 2, 1, []), (7, .iload_n 1, 1, []), (8, .imul, 1, []), (9, .iadd, 1, []), (10, .iconst 1, 1, []), (11, .iadd, 1, []), (12, .iaload, 1, []), (13, .ireturn, 1, [])]
theorem hCX7_lasts : ∀ q ∈ CX7_lasts, chk cX7_lasts q := by decide +kernel
theorem lCX7_lasts : lnk CX7_lasts = true := by decide +kernel
def CX7_lateness : CL := [(0, .iconst 0, 1, []), (1, .aload_n 0, 1, []), (2, .iload_n 1, 1, []), (3, .invokevirtual 205, 3, []), (6, .aload_n 0, 1, []), (7, .iload_n 1, 1, []), (8, .iconst 1, 1, []), (9, .invokevirtual 69, 3, []), (12, .isub, 1, []), (13, .invokestatic 108, 3, []), (16, .ireturn, 1, [])]
theorem hCX7_lateness : ∀ q ∈ CX7_lateness, chk cX7_lateness q := by decide +kernel
theorem lCX7_lateness : lnk CX7_lateness = true := by decide +kernel
def CX7_layPlans : CL := [(0, .aload_n 0, 1, []), (1, .getfield 7, 3, []), (4, .bipush 45, 2, []), (6, .iload_n 1, 1, []), (7, .iadd, 1, []), (8, .iaload, 1, []), (9, .istore_n 3, 1, []), (10, .bipush 49, 2, []), (12, .iconst 4, 1, []), (13, .iload_n 1, 1, []), (14, .imul, 1, []), (15, .iadd, 1, []), (16, .istore 4, 2, []), (18, .iload_n 2, 1, []), (19, .istore 5, 2, []), (21, .iload 5, 2, []), (23, .iload_n 3, 1, []), (24, .if_icmp .ge 59, 3, [83]), (27, .iload 5, 2, []), (29, .istore 6, 2, []), (31, .iload 6, 2, []), (33, .iload_n 2, 1, []), (34, .if_icmp .le 43, 3, [77]), (37, .aload_n 0, 1, []), (38, .getfield 7, 3, []), (41, .iload 4, 2, []), (43, .iload 6, 2, []), (45, .iadd, 1, []), (46, .iconst 1, 1, []), (47, .isub, 1, []), (48, .iaload, 1, []), (49, .aload_n 0, 1, []), (50, .getfield 7, 3, []), (53, .iload 4, 2, []), (55, .iload 6, 2, []), (57, .iadd, 1, []), (58, .iaload, 1, []), (59, .if_icmp .le 18, 3, [77]), (62, .aload_n 0, 1, []), (63, .iload_n 1, 1, []), (64, .iload 6, 2, []), (66, .iconst 1, 1, []), (67, .isub, 1, []), (68, .invokevirtual 162, 3, []), (71, .iinc 6 (-1), 3, []), (74, .goto (-43), 3, [31]), (77, .iinc 5 1, 3, []), (80, .goto (-59), 3, [21]), (83, .aload_n 0, 1, []), (84, .getfield 44, 3, []), (87, .iload_n 1, 1, []), (88, .iconst 0, 1, []), (89, .iastore, 1, []), (90, .iconst 1, 1, []), (91, .istore 5, 2, []), (93, .iload 5, 2, []), (95, .ifCond .eq 72, 3, [167]), (98, .iconst 0, 1, []), (99, .istore 6, 2, []), (101, .iload 6, 2, []), (103, .iload_n 3, 1, []), (104, .if_icmp .ge 40, 3, [144]), (107, .aload_n 0, 1, []), (108, .getfield 41, 3, []), (111, .iconst 4, 1, []), (112, .bipush 24, 2, []), (114, .iload_n 1, 1, []), (115, .imul, 1, []), (116, .aload_n 0, 1, []), (117, .getfield 44, 3, []), (120, .iload_n 1, 1, []), (121, .iaload, 1, []), (122, .iadd, 1, []), (123, .imul, 1, []), (124, .iload 6, 2, []), (126, .iadd, 1, []), (127, .aload_n 0, 1, []), (128, .getfield 7, 3, []), (131, .iload 4, 2, []), (133, .iload 6, 2, []), (135, .iadd, 1, []), (136, .iaload, 1, []), (137, .iastore, 1, []), (138, .iinc 6 1, 3, []), (141, .goto (-40), 3, [101]), (144, .aload_n 0, 1, []), (145, .getfield 44, 3, []), (148, .iload_n 1, 1, []), (149, .dup2, 1, []), (150, .iaload, 1, []), (151, .iconst 1, 1, []), (152, .iadd, 1, []), (153, .iastore, 1, []), (154, .aload_n 0, 1, []), (155, .iload 4, 2, []), (157, .iload_n 2, 1, []), (158, .iload_n 3, 1, []), (159, .invokevirtual 168, 3, []), (162, .istore 5, 2, []), (164, .goto (-71), 3, [93]), (167, .return_, 1, [])]
theorem hCX7_layPlans : ∀ q ∈ CX7_layPlans, chk cX7_layPlans q := by decide +kernel
theorem lCX7_layPlans : lnk CX7_layPlans = true := by decide +kernel
def CX7_layStays : CL := [(0, .iconst 0, 1, []), (1, .istore 5, 2, []), (3, .iconst 0, 1, []), (4, .istore 6, 2, []), (6, .iload 6, 2, []), (8, .aload_n 0, 1, []), (9, .getfield 7, 3, []), (12, .bipush 45, 2, []), (14, .iload_n 1, 1, []), (15, .iadd, 1, []), (16, .iaload, 1, []), (17, .if_icmp .ge 106, 3, [123]), (20, .aload_n 0, 1, []), (21, .iload_n 1, 1, []), (22, .iload 6, 2, []), (24, .invokevirtual 117, 3, []), (27, .istore 7, 2, []), (29, .aload_n 0, 1, []), (30, .iload 7, 2, []), (32, .invokevirtual 114, 3, []), (35, .iload_n 3, 1, []), (36, .if_icmp .gt 7, 3, [43]), (39, .iconst 1, 1, []), (40, .goto 4, 3, [44]), (43, .iconst 0, 1, []), (44, .istore 8, 2, []), (46, .aload_n 0, 1, []), (47, .getfield 29, 3, []), (50, .iload 7, 2, []), (52, .iload 8, 2, []), (54, .ifCond .ne 19, 3, [73]), (57, .iload_n 1, 1, []), (58, .iload_n 2, 1, []), (59, .if_icmp .eq 18, 3, [77]), (62, .aload_n 0, 1, []), (63, .getfield 32, 3, []), (66, .iload 7, 2, []), (68, .iaload, 1, []), (69, .iload_n 3, 1, []), (70, .if_icmp .ge 7, 3, [77]), (73, .iconst 1, 1, []), (74, .goto 4, 3, [78]), (77, .iconst 0, 1, []), (78, .bastore, 1, []), (79, .aload_n 0, 1, []), (80, .getfield 26, 3, []), (83, .iload 7, 2, []), (85, .iload_n 1, 1, []), (86, .iload_n 2, 1, []), (87, .if_icmp .ne 8, 3, [95]), (90, .iload 4, 2, []), (92, .goto 4, 3, [96]), (95, .iload_n 3, 1, []), (96, .iastore, 1, []), (97, .iload 5, 2, []), (99, .aload_n 0, 1, []), (100, .getfield 29, 3, []), (103, .iload 7, 2, []), (105, .baload, 1, []), (106, .ifCond .eq 7, 3, [113]), (109, .iconst 1, 1, []), (110, .goto 4, 3, [114]), (113, .iconst 0, 1, []), (114, .iadd, 1, []), (115, .istore 5, 2, []), (117, .iinc 6 1, 3, []), (120, .goto (-114), 3, [6]), (123, .iload 5, 2, []), (125, .ireturn, 1, [])]
theorem hCX7_layStays : ∀ q ∈ CX7_layStays, chk cX7_layStays q := by decide +kernel
theorem lCX7_layStays : lnk CX7_layStays = true := by decide +kernel
def CX7_layTried : CL := [(0, .iconst 0, 1, []), (1, .istore_n 2, 1, []), (2, .iload_n 2, 1, []), (3, .aload_n 0, 1, []), (4, .getfield 7, 3, []), (7, .bipush 45, 2, []), (9, .iload_n 1, 1, []), (10, .iadd, 1, []), (11, .iaload, 1, []), (12, .if_icmp .ge 42, 3, [54]), (15, .aload_n 0, 1, []), (16, .getfield 7, 3, []), (19, .bipush 49, 2, []), (21, .iconst 4, 1, []), (22, .iload_n 1, 1, []), (23, .imul, 1, []), (24, .iadd, 1, []), (25, .iload_n 2, 1, []), (26, .iadd, 1, []), (27, .aload_n 0, 1, []), (28, .getfield 41, 3, []), (31, .iconst 4, 1, []), (32, .bipush 24, 2, []), (34, .iload_n 1, 1, []), (35, .imul, 1, []), (36, .aload_n 0, 1, []), (37, .getfield 47, 3, []), (40, .iload_n 1, 1, []), (41, .iaload, 1, []), (42, .iadd, 1, []), (43, .imul, 1, []), (44, .iload_n 2, 1, []), (45, .iadd, 1, []), (46, .iaload, 1, []), (47, .iastore, 1, []), (48, .iinc 2 1, 3, []), (51, .goto (-49), 3, [2]), (54, .return_, 1, [])]
theorem hCX7_layTried : ∀ q ∈ CX7_layTried, chk cX7_layTried q := by decide +kernel
theorem lCX7_layTried : lnk CX7_layTried = true := by decide +kernel
def CX7_length : CL := [(0, .aload_n 0, 1, []), (1, .invokevirtual 139, 3, []), (4, .ifCond .eq 10, 3, [14]), (7, .aload_n 0, 1, []), (8, .invokevirtual 143, 3, []), (11, .goto 5, 3, [16]), (14, .bipush (-6), 2, []), (16, .ireturn, 1, [])]
theorem hCX7_length : ∀ q ∈ CX7_length, chk cX7_length q := by decide +kernel
theorem lCX7_length : lnk CX7_length = true := by decide +kernel
def CX7_loadPlan : CL := [(0, .aload_n 0, 1, []), (1, .iconst 1, 1, []), (2, .invokevirtual 296, 3, []), (5, .bipush (-6), 2, []), (7, .if_icmp .eq 6, 3, [13]), (10, .bipush (-3), 2, []), (12, .ireturn, 1, []), (13, .iconst 0, 1, []), (14, .istore_n 1, 1, []), (15, .iload_n 1, 1, []), (16, .aload_n 0, 1, []), (17, .getfield 272, 3, []), (20, .if_icmp .ge 23, 3, [43]), (23, .aload_n 0, 1, []), (24, .bipush 11, 2, []), (26, .iload_n 1, 1, []), (27, .imul, 1, []), (28, .invokevirtual 299, 3, []), (31, .ifCond .ne 6, 3, [37]), (34, .bipush (-5), 2, []), (36, .ireturn, 1, []), (37, .iinc 1 1, 3, []), (40, .goto (-25), 3, [15]), (43, .aload_n 0, 1, []), (44, .invokevirtual 91, 3, []), (47, .iconst 0, 1, []), (48, .istore_n 1, 1, []), (49, .iload_n 1, 1, []), (50, .aload_n 0, 1, []), (51, .getfield 272, 3, []), (54, .if_icmp .ge 66, 3, [120]), (57, .iconst 0, 1, []), (58, .istore_n 2, 1, []), (59, .iload_n 2, 1, []), (60, .aload_n 0, 1, []), (61, .getfield 62, 3, []), (64, .bipush 11, 2, []), (66, .iload_n 1, 1, []), (67, .imul, 1, []), (68, .iconst 1, 1, []), (69, .iadd, 1, []), (70, .iaload, 1, []), (71, .if_icmp .ge 43, 3, [114]), (74, .aload_n 0, 1, []), (75, .getfield 7, 3, []), (78, .bipush 49, 2, []), (80, .iconst 4, 1, []), (81, .aload_n 0, 1, []), (82, .getfield 62, 3, []), (85, .bipush 11, 2, []), (87, .iload_n 1, 1, []), (88, .imul, 1, []), (89, .iaload, 1, []), (90, .imul, 1, []), (91, .iadd, 1, []), (92, .iload_n 2, 1, []), (93, .iadd, 1, []), (94, .aload_n 0, 1, []), (95, .getfield 62, 3, []), (98, .bipush 11, 2, []), (100, .iload_n 1, 1, []), (101, .imul, 1, []), (102, .iconst 2, 1, []), (103, .iadd, 1, []), (104, .iload_n 2, 1, []), (105, .iadd, 1, []), (106, .iaload, 1, []), (107, .iastore, 1, []), (108, .iinc 2 1, 3, []), (111, .goto (-52), 3, [59]), (114, .iinc 1 1, 3, []), (117, .goto (-68), 3, [49]), (120, .aload_n 0, 1, []), (121, .iconst 0, 1, []), (122, .putfield 224, 3, []), (125, .aload_n 0, 1, []), (126, .invokevirtual 139, 3, []), (129, .ifCond .eq 7, 3, [136]), (132, .iconst 1, 1, []), (133, .goto 4, 3, [137]), (136, .iconst 0, 1, []), (137, .ireturn, 1, [])]
theorem hCX7_loadPlan : ∀ q ∈ CX7_loadPlan, chk cX7_loadPlan q := by decide +kernel
theorem lCX7_loadPlan : lnk CX7_loadPlan = true := by decide +kernel
def CX7_loadRoutes : CL := [(0, .aload_n 0, 1, []), (1, .iconst 0, 1, []), (2, .invokevirtual 296, 3, []), (5, .bipush (-6), 2, []), (7, .if_icmp .eq 6, 3, [13]), (10, .bipush (-3), 2, []), (12, .ireturn, 1, []), (13, .aload_n 0, 1, []), (14, .invokevirtual 91, 3, []), (17, .iconst 0, 1, []), (18, .istore_n 1, 1, []), (19, .iload_n 1, 1, []), (20, .bipush 65, 2, []), (22, .if_icmp .ge 16, 3, [38]), (25, .aload_n 0, 1, []), (26, .getfield 7, 3, []), (29, .iload_n 1, 1, []), (30, .iconst 0, 1, []), (31, .iastore, 1, []), (32, .iinc 1 1, 3, []), (35, .goto (-16), 3, [19]), (38, .iconst 0, 1, []), (39, .istore_n 1, 1, []), (40, .iload_n 1, 1, []), (41, .aload_n 0, 1, []), (42, .getfield 272, 3, []), (45, .if_icmp .ge 92, 3, [137]), (48, .aload_n 0, 1, []), (49, .aload_n 0, 1, []), (50, .getfield 62, 3, []), (53, .bipush 11, 2, []), (55, .iload_n 1, 1, []), (56, .imul, 1, []), (57, .iaload, 1, []), (58, .aload_n 0, 1, []), (59, .getfield 62, 3, []), (62, .bipush 11, 2, []), (64, .iload_n 1, 1, []), (65, .imul, 1, []), (66, .iconst 1, 1, []), (67, .iadd, 1, []), (68, .iaload, 1, []), (69, .invokevirtual 94, 3, []), (72, .iconst 0, 1, []), (73, .istore_n 2, 1, []), (74, .iload_n 2, 1, []), (75, .aload_n 0, 1, []), (76, .getfield 62, 3, []), (79, .bipush 11, 2, []), (81, .iload_n 1, 1, []), (82, .imul, 1, []), (83, .iconst 2, 1, []), (84, .iadd, 1, []), (85, .iaload, 1, []), (86, .if_icmp .ge 45, 3, [131]), (89, .aload_n 0, 1, []), (90, .iload_n 1, 1, []), (91, .aload_n 0, 1, []), (92, .getfield 62, 3, []), (95, .bipush 11, 2, []), (97, .iload_n 1, 1, []), (98, .imul, 1, []), (99, .iconst 3, 1, []), (100, .iadd, 1, []), (101, .iconst 2, 1, []), (102, .iload_n 2, 1, []), (103, .imul, 1, []), (104, .iadd, 1, []), (105, .iaload, 1, []), (106, .aload_n 0, 1, []), (107, .getfield 62, 3, []), (110, .bipush 11, 2, []), (112, .iload_n 1, 1, []), (113, .imul, 1, []), (114, .iconst 4, 1, []), (115, .iadd, 1, []), (116, .iconst 2, 1, []), (117, .iload_n 2, 1, []), (118, .imul, 1, []), (119, .iadd, 1, []), (120, .iaload, 1, []), (121, .invokevirtual 98, 3, []), (124, .istore_n 3, 1, []), (125, .iinc 2 1, 3, []), (128, .goto (-54), 3, [74]), (131, .iinc 1 1, 3, []), (134, .goto (-94), 3, [40]), (137, .aload_n 0, 1, []), (138, .iconst 0, 1, []), (139, .putfield 224, 3, []), (142, .aload_n 0, 1, []), (143, .getfield 272, 3, []), (146, .ireturn, 1, [])]
theorem hCX7_loadRoutes : ∀ q ∈ CX7_loadRoutes, chk cX7_loadRoutes q := by decide +kernel
theorem lCX7_loadRoutes : lnk CX7_loadRoutes = true := by decide +kernel
def CX7_machineOf : CL := [(0, .aload_n 0, 1, []), (1, .getfield 7, 3, []), (4, .bipush 13, 2, []), (6, .iconst 2, 1, []), (7, .iload_n 1, 1, []), (8, .imul, 1, []), (9, .iadd, 1, []), (10, .iaload, 1, []), (11, .ireturn, 1, [])]
theorem hCX7_machineOf : ∀ q ∈ CX7_machineOf, chk cX7_machineOf q := by decide +kernel
theorem lCX7_machineOf : lnk CX7_machineOf = true := by decide +kernel
def CX7_need : CL := [(0, .aload_n 0, 1, []), (1, .aload_n 0, 1, []), (2, .getfield 265, 3, []), (5, .ifCond .ne 11, 3, [16]), (8, .aload_n 0, 1, []), (9, .invokevirtual 269, 3, []), (12, .iload_n 1, 1, []), (13, .if_icmp .eq 7, 3, [20]), (16, .iconst 1, 1, []), (17, .goto 4, 3, [21]), (20, .iconst 0, 1, []), (21, .putfield 265, 3, []), (24, .aload_n 0, 1, []), (25, .dup, 1, []), (26, .getfield 262, 3, []), (29, .aload_n 0, 1, []), (30, .getfield 265, 3, []), (33, .ifCond .eq 7, 3, [40]), (36, .iconst 0, 1, []), (37, .goto 4, 3, [41]), (40, .iconst 1, 1, []), (41, .iadd, 1, []), (42, .putfield 262, 3, []), (45, .return_, 1, [])]
theorem hCX7_need : ∀ q ∈ CX7_need, chk cX7_need q := by decide +kernel
theorem lCX7_need : lnk CX7_need = true := by decide +kernel
def CX7_next : CL := [(0, .aload_n 0, 1, []), (1, .getfield 262, 3, []), (4, .aload_n 0, 1, []), (5, .getfield 224, 3, []), (8, .if_icmp .ge 15, 3, [23]), (11, .aload_n 0, 1, []), (12, .getfield 23, 3, []), (15, .aload_n 0, 1, []), (16, .getfield 262, 3, []), (19, .iaload, 1, []), (20, .goto 4, 3, [24]), (23, .iconst 0, 1, []), (24, .ireturn, 1, [])]
theorem hCX7_next : ∀ q ∈ CX7_next, chk cX7_next q := by decide +kernel
theorem lCX7_next : lnk CX7_next = true := by decide +kernel
def CX7_nextPlan : CL := [(0, .iload_n 3, 1, []), (1, .iconst 2, 1, []), (2, .isub, 1, []), (3, .istore 4, 2, []), (5, .iload 4, 2, []), (7, .iload_n 2, 1, []), (8, .if_icmp .lt 32, 3, [40]), (11, .aload_n 0, 1, []), (12, .getfield 7, 3, []), (15, .iload_n 1, 1, []), (16, .iload 4, 2, []), (18, .iadd, 1, []), (19, .iaload, 1, []), (20, .aload_n 0, 1, []), (21, .getfield 7, 3, []), (24, .iload_n 1, 1, []), (25, .iload 4, 2, []), (27, .iadd, 1, []), (28, .iconst 1, 1, []), (29, .iadd, 1, []), (30, .iaload, 1, []), (31, .if_icmp .le 9, 3, [40]), (34, .iinc 4 (-1), 3, []), (37, .goto (-32), 3, [5]), (40, .iload 4, 2, []), (42, .iload_n 2, 1, []), (43, .if_icmp .ge 5, 3, [48]), (46, .iconst 0, 1, []), (47, .ireturn, 1, []), (48, .iload_n 3, 1, []), (49, .iconst 1, 1, []), (50, .isub, 1, []), (51, .istore 5, 2, []), (53, .aload_n 0, 1, []), (54, .getfield 7, 3, []), (57, .iload_n 1, 1, []), (58, .iload 5, 2, []), (60, .iadd, 1, []), (61, .iaload, 1, []), (62, .aload_n 0, 1, []), (63, .getfield 7, 3, []), (66, .iload_n 1, 1, []), (67, .iload 4, 2, []), (69, .iadd, 1, []), (70, .iaload, 1, []), (71, .if_icmp .ge 9, 3, [80]), (74, .iinc 5 (-1), 3, []), (77, .goto (-24), 3, [53]), (80, .aload_n 0, 1, []), (81, .getfield 7, 3, []), (84, .iload_n 1, 1, []), (85, .iload 4, 2, []), (87, .iadd, 1, []), (88, .iaload, 1, []), (89, .istore 6, 2, []), (91, .aload_n 0, 1, []), (92, .getfield 7, 3, []), (95, .iload_n 1, 1, []), (96, .iload 4, 2, []), (98, .iadd, 1, []), (99, .aload_n 0, 1, []), (100, .getfield 7, 3, []), (103, .iload_n 1, 1, []), (104, .iload 5, 2, []), (106, .iadd, 1, []), (107, .iaload, 1, []), (108, .iastore, 1, []), (109, .aload_n 0, 1, []), (110, .getfield 7, 3, []), (113, .iload_n 1, 1, []), (114, .iload 5, 2, []), (116, .iadd, 1, []), (117, .iload 6, 2, []), (119, .iastore, 1, []), (120, .iload 4, 2, []), (122, .iconst 1, 1, []), (123, .iadd, 1, []), (124, .istore 7, 2, []), (126, .iload_n 3, 1, []), (127, .iconst 1, 1, []), (128, .isub, 1, []), (129, .istore 8, 2, []), (131, .iload 7, 2, []), (133, .iload 8, 2, []), (135, .if_icmp .ge 52, 3, [187]), (138, .aload_n 0, 1, []), (139, .getfield 7, 3, []), (142, .iload_n 1, 1, []), (143, .iload 7, 2, []), (145, .iadd, 1, []), (146, .iaload, 1, []), (147, .istore 6, 2, []), (149, .aload_n 0, 1, []), (150, .getfield 7, 3, []), (153, .iload_n 1, 1, []), (154, .iload 7, 2, []), (156, .iadd, 1, []), (157, .aload_n 0, 1, []), (158, .getfield 7, 3, []), (161, .iload_n 1, 1, []), (162, .iload 8, 2, []), (164, .iadd, 1, []), (165, .iaload, 1, []), (166, .iastore, 1, []), (167, .aload_n 0, 1, []), (168, .getfield 7, 3, []), (171, .iload_n 1, 1, []), (172, .iload 8, 2, []), (174, .iadd, 1, []), (175, .iload 6, 2, []), (177, .iastore, 1, []), (178, .iinc 7 1, 3, []), (181, .iinc 8 (-1), 3, []), (184, .goto (-53), 3, [131]), (187, .iconst 1, 1, []), (188, .ireturn, 1, [])]
theorem hCX7_nextPlan : ∀ q ∈ CX7_nextPlan, chk cX7_nextPlan q := by decide +kernel
theorem lCX7_nextPlan : lnk CX7_nextPlan = true := by decide +kernel
def CX7_nothingStays : CL := [(0, .iconst 0, 1, []), (1, .istore_n 1, 1, []), (2, .iload_n 1, 1, []), (3, .bipush 16, 2, []), (5, .if_icmp .ge 23, 3, [28]), (8, .aload_n 0, 1, []), (9, .getfield 26, 3, []), (12, .iload_n 1, 1, []), (13, .iconst 0, 1, []), (14, .iastore, 1, []), (15, .aload_n 0, 1, []), (16, .getfield 29, 3, []), (19, .iload_n 1, 1, []), (20, .iconst 0, 1, []), (21, .bastore, 1, []), (22, .iinc 1 1, 3, []), (25, .goto (-23), 3, [2]), (28, .return_, 1, [])]
theorem hCX7_nothingStays : ∀ q ∈ CX7_nothingStays, chk cX7_nothingStays q := by decide +kernel
theorem lCX7_nothingStays : lnk CX7_nothingStays = true := by decide +kernel
def CX7_ofAJob : CL := [(0, .aload_n 0, 1, []), (1, .getfield 7, 3, []), (4, .iconst 1, 1, []), (5, .iconst 3, 1, []), (6, .iload_n 1, 1, []), (7, .imul, 1, []), (8, .iadd, 1, []), (9, .iload_n 2, 1, []), (10, .iadd, 1, []), (11, .iaload, 1, []), (12, .ireturn, 1, [])]
theorem hCX7_ofAJob : ∀ q ∈ CX7_ofAJob, chk cX7_ofAJob q := by decide +kernel
theorem lCX7_ofAJob : lnk CX7_ofAJob = true := by decide +kernel
def CX7_ofJob : CL := [(0, .aload_n 0, 1, []), (1, .iload_n 1, 1, []), (2, .invokevirtual 65, 3, []), (5, .ifCond .ne 5, 3, [10]), (8, .iconst (-1), 1, []), (9, .ireturn, 1, []), (10, .iload_n 2, 1, []), (11, .iconst 0, 1, []), (12, .iconst 5, 1, []), (13, .invokestatic 87, 3, []), (16, .ifCond .ne 6, 3, [22]), (19, .bipush (-2), 2, []), (21, .ireturn, 1, []), (22, .iload_n 2, 1, []), (23, .iconst 4, 1, []), (24, .if_icmp .ge 23, 3, [47]), (27, .iload_n 2, 1, []), (28, .iconst 3, 1, []), (29, .if_icmp .ne 11, 3, [40]), (32, .aload_n 0, 1, []), (33, .iload_n 1, 1, []), (34, .invokevirtual 208, 3, []), (37, .goto 9, 3, [46]), (40, .aload_n 0, 1, []), (41, .iload_n 1, 1, []), (42, .iload_n 2, 1, []), (43, .invokevirtual 69, 3, []), (46, .ireturn, 1, []), (47, .aload_n 0, 1, []), (48, .invokevirtual 139, 3, []), (51, .ifCond .ne 8, 3, [59]), (54, .bipush (-6), 2, []), (56, .goto 21, 3, [77]), (59, .iload_n 2, 1, []), (60, .iconst 4, 1, []), (61, .if_icmp .ne 11, 3, [72]), (64, .aload_n 0, 1, []), (65, .iload_n 1, 1, []), (66, .invokevirtual 205, 3, []), (69, .goto 8, 3, [77]), (72, .aload_n 0, 1, []), (73, .iload_n 1, 1, []), (74, .invokevirtual 211, 3, []), (77, .ireturn, 1, [])]
theorem hCX7_ofJob : ∀ q ∈ CX7_ofJob, chk cX7_ofJob q := by decide +kernel
theorem lCX7_ofJob : lnk CX7_ofJob = true := by decide +kernel
def CX7_ofPlan : CL := [(0, .aload_n 0, 1, []), (1, .invokevirtual 139, 3, []), (4, .ifCond .ne 6, 3, [10]), (7, .bipush (-6), 2, []), (9, .ireturn, 1, []), (10, .aload_n 0, 1, []), (11, .invokevirtual 165, 3, []), (14, .iconst 0, 1, []), (15, .istore_n 2, 1, []), (16, .iconst 0, 1, []), (17, .istore_n 3, 1, []), (18, .iconst 0, 1, []), (19, .istore 4, 2, []), (21, .iload 4, 2, []), (23, .aload_n 0, 1, []), (24, .getfield 7, 3, []), (27, .iconst 0, 1, []), (28, .iaload, 1, []), (29, .if_icmp .ge 29, 3, [58]), (32, .iload_n 2, 1, []), (33, .aload_n 0, 1, []), (34, .iload 4, 2, []), (36, .invokevirtual 211, 3, []), (39, .iadd, 1, []), (40, .istore_n 2, 1, []), (41, .iload_n 3, 1, []), (42, .aload_n 0, 1, []), (43, .iload 4, 2, []), (45, .invokevirtual 211, 3, []), (48, .invokestatic 108, 3, []), (51, .istore_n 3, 1, []), (52, .iinc 4 1, 3, []), (55, .goto (-34), 3, [21]), (58, .iload_n 1, 1, []), (59, .iconst 3, 1, []), (60, .if_icmp .ne 10, 3, [70]), (63, .aload_n 0, 1, []), (64, .getfield 153, 3, []), (67, .goto 25, 3, [92]), (70, .iload_n 1, 1, []), (71, .iconst 4, 1, []), (72, .if_icmp .ne 10, 3, [82]), (75, .aload_n 0, 1, []), (76, .invokevirtual 214, 3, []), (79, .goto 13, 3, [92]), (82, .iload_n 1, 1, []), (83, .iconst 5, 1, []), (84, .if_icmp .ne 7, 3, [91]), (87, .iload_n 2, 1, []), (88, .goto 4, 3, [92]), (91, .iload_n 3, 1, []), (92, .ireturn, 1, [])]
theorem hCX7_ofPlan : ∀ q ∈ CX7_ofPlan, chk cX7_ofPlan q := by decide +kernel
theorem lCX7_ofPlan : lnk CX7_ofPlan = true := by decide +kernel
def CX7_operation : CL := [(0, .aload_n 0, 1, []), (1, .iload_n 1, 1, []), (2, .invokevirtual 65, 3, []), (5, .ifCond .ne 5, 3, [10]), (8, .iconst (-1), 1, []), (9, .ireturn, 1, []), (10, .iload_n 2, 1, []), (11, .iconst 0, 1, []), (12, .iconst 3, 1, []), (13, .invokestatic 87, 3, []), (16, .ifCond .eq 13, 3, [29]), (19, .iload_n 3, 1, []), (20, .iconst 1, 1, []), (21, .bipush 20, 2, []), (23, .invokestatic 87, 3, []), (26, .ifCond .ne 6, 3, [32]), (29, .bipush (-2), 2, []), (31, .ireturn, 1, []), (32, .aload_n 0, 1, []), (33, .iload_n 1, 1, []), (34, .iload_n 2, 1, []), (35, .invokevirtual 80, 3, []), (38, .ifCond .lt 6, 3, [44]), (41, .bipush (-5), 2, []), (43, .ireturn, 1, []), (44, .aload_n 0, 1, []), (45, .invokevirtual 91, 3, []), (48, .aload_n 0, 1, []), (49, .iload_n 1, 1, []), (50, .iload_n 2, 1, []), (51, .iload_n 3, 1, []), (52, .invokevirtual 98, 3, []), (55, .ireturn, 1, [])]
theorem hCX7_operation : ∀ q ∈ CX7_operation, chk cX7_operation q := by decide +kernel
theorem lCX7_operation : lnk CX7_operation = true := by decide +kernel
def CX7_operationAt : CL := [(0, .iload_n 2, 1, []), (1, .ifCond .lt 16, 3, [17]), (4, .iload_n 2, 1, []), (5, .aload_n 0, 1, []), (6, .getfield 7, 3, []), (9, .bipush 45, 2, []), (11, .iload_n 1, 1, []), (12, .iadd, 1, []), (13, .iaload, 1, []), (14, .if_icmp .lt 8, 3, [22]), (17, .bipush (-6), 2, []), (19, .goto 14, 3, [33]), (22, .aload_n 0, 1, []), (23, .aload_n 0, 1, []), (24, .iload_n 1, 1, []), (25, .iload_n 2, 1, []), (26, .invokevirtual 77, 3, []), (29, .iload_n 1, 1, []), (30, .invokevirtual 80, 3, []), (33, .ireturn, 1, [])]
theorem hCX7_operationAt : ∀ q ∈ CX7_operationAt, chk cX7_operationAt q := by decide +kernel
theorem lCX7_operationAt : lnk CX7_operationAt = true := by decide +kernel
def CX7_operationOn : CL := [(0, .iconst 0, 1, []), (1, .istore_n 3, 1, []), (2, .iload_n 3, 1, []), (3, .aload_n 0, 1, []), (4, .iload_n 1, 1, []), (5, .iconst 2, 1, []), (6, .invokevirtual 69, 3, []), (9, .if_icmp .ge 28, 3, [37]), (12, .aload_n 0, 1, []), (13, .iconst 4, 1, []), (14, .iload_n 1, 1, []), (15, .imul, 1, []), (16, .iload_n 3, 1, []), (17, .iadd, 1, []), (18, .invokevirtual 73, 3, []), (21, .iload_n 2, 1, []), (22, .if_icmp .ne 9, 3, [31]), (25, .iconst 4, 1, []), (26, .iload_n 1, 1, []), (27, .imul, 1, []), (28, .iload_n 3, 1, []), (29, .iadd, 1, []), (30, .ireturn, 1, []), (31, .iinc 3 1, 3, []), (34, .goto (-32), 3, [2]), (37, .bipush (-6), 2, []), (39, .ireturn, 1, [])]
theorem hCX7_operationOn : ∀ q ∈ CX7_operationOn, chk cX7_operationOn q := by decide +kernel
theorem lCX7_operationOn : lnk CX7_operationOn = true := by decide +kernel
def CX7_order : CL := [(0, .iload_n 1, 1, []), (1, .iconst 0, 1, []), (2, .iconst 3, 1, []), (3, .invokestatic 87, 3, []), (6, .ifCond .ne 6, 3, [12]), (9, .bipush (-2), 2, []), (11, .ireturn, 1, []), (12, .iload_n 2, 1, []), (13, .ifCond .lt 25, 3, [38]), (16, .iload_n 2, 1, []), (17, .aload_n 0, 1, []), (18, .getfield 7, 3, []), (21, .bipush 45, 2, []), (23, .iload_n 1, 1, []), (24, .iadd, 1, []), (25, .iaload, 1, []), (26, .if_icmp .ge 12, 3, [38]), (29, .aload_n 0, 1, []), (30, .iload_n 1, 1, []), (31, .iload_n 2, 1, []), (32, .invokevirtual 77, 3, []), (35, .goto 5, 3, [40]), (38, .bipush (-6), 2, []), (40, .ireturn, 1, [])]
theorem hCX7_order : ∀ q ∈ CX7_order, chk cX7_order q := by decide +kernel
theorem lCX7_order : lnk CX7_order = true := by decide +kernel
def CX7_path : CL := [(0, .aload_n 0, 1, []), (1, .invokevirtual 139, 3, []), (4, .ifCond .ne 6, 3, [10]), (7, .bipush (-6), 2, []), (9, .ireturn, 1, []), (10, .aload_n 0, 1, []), (11, .invokevirtual 165, 3, []), (14, .iload_n 1, 1, []), (15, .ifCond .lt 20, 3, [35]), (18, .iload_n 1, 1, []), (19, .aload_n 0, 1, []), (20, .getfield 153, 3, []), (23, .if_icmp .ge 12, 3, [35]), (26, .aload_n 0, 1, []), (27, .getfield 38, 3, []), (30, .iload_n 1, 1, []), (31, .iaload, 1, []), (32, .goto 5, 3, [37]), (35, .bipush (-6), 2, []), (37, .ireturn, 1, [])]
theorem hCX7_path : ∀ q ∈ CX7_path, chk cX7_path q := by decide +kernel
theorem lCX7_path : lnk CX7_path = true := by decide +kernel
def CX7_placeOf : CL := [(0, .aload_n 0, 1, []), (1, .iload_n 1, 1, []), (2, .invokevirtual 73, 3, []), (5, .istore_n 2, 1, []), (6, .iconst 0, 1, []), (7, .istore_n 3, 1, []), (8, .aload_n 0, 1, []), (9, .iload_n 2, 1, []), (10, .iload_n 3, 1, []), (11, .invokevirtual 77, 3, []), (14, .iload_n 1, 1, []), (15, .iconst 4, 1, []), (16, .idiv, 1, []), (17, .if_icmp .eq 9, 3, [26]), (20, .iinc 3 1, 3, []), (23, .goto (-15), 3, [8]), (26, .iload_n 3, 1, []), (27, .ireturn, 1, [])]
theorem hCX7_placeOf : ∀ q ∈ CX7_placeOf, chk cX7_placeOf q := by decide +kernel
theorem lCX7_placeOf : lnk CX7_placeOf = true := by decide +kernel
def CX7_placeOnPath : CL := [(0, .iconst 0, 1, []), (1, .istore_n 2, 1, []), (2, .iload_n 2, 1, []), (3, .aload_n 0, 1, []), (4, .getfield 153, 3, []), (7, .if_icmp .ge 21, 3, [28]), (10, .aload_n 0, 1, []), (11, .getfield 38, 3, []), (14, .iload_n 2, 1, []), (15, .iaload, 1, []), (16, .iload_n 1, 1, []), (17, .if_icmp .ne 5, 3, [22]), (20, .iload_n 2, 1, []), (21, .ireturn, 1, []), (22, .iinc 2 1, 3, []), (25, .goto (-23), 3, [2]), (28, .bipush (-6), 2, []), (30, .ireturn, 1, [])]
theorem hCX7_placeOnPath : ∀ q ∈ CX7_placeOnPath, chk cX7_placeOnPath q := by decide +kernel
theorem lCX7_placeOnPath : lnk CX7_placeOnPath = true := by decide +kernel
def CX7_put : CL := [(0, .iconst 0, 1, []), (1, .istore_n 3, 1, []), (2, .lload_n 1, 1, []), (3, .lstore 4, 2, []), (5, .iload_n 3, 1, []), (6, .bipush 8, 2, []), (8, .if_icmp .ge 47, 3, [55]), (11, .lload 4, 2, []), (13, .ldc2_w 260, 3, []), (16, .land, 1, []), (17, .lconst 0, 1, []), (18, .lcmp, 1, []), (19, .ifCond .eq 36, 3, [55]), (22, .lload 4, 2, []), (24, .ldc2_w 260, 3, []), (27, .land, 1, []), (28, .l2i, 1, []), (29, .bipush 33, 2, []), (31, .bipush 126, 2, []), (33, .invokestatic 87, 3, []), (36, .ifCond .ne 6, 3, [42]), (39, .bipush (-2), 2, []), (41, .ireturn, 1, []), (42, .iinc 3 1, 3, []), (45, .lload 4, 2, []), (47, .bipush 8, 2, []), (49, .lushr, 1, []), (50, .lstore 4, 2, []), (52, .goto (-47), 3, [5]), (55, .iload_n 3, 1, []), (56, .ifCond .eq 10, 3, [66]), (59, .lload 4, 2, []), (61, .lconst 0, 1, []), (62, .lcmp, 1, []), (63, .ifCond .eq 6, 3, [69]), (66, .bipush (-2), 2, []), (68, .ireturn, 1, []), (69, .aload_n 0, 1, []), (70, .getfield 224, 3, []), (73, .iload_n 3, 1, []), (74, .iadd, 1, []), (75, .bipush 80, 2, []), (77, .if_icmp .le 6, 3, [83]), (80, .bipush (-4), 2, []), (82, .ireturn, 1, []), (83, .iconst 0, 1, []), (84, .istore 6, 2, []), (86, .iload 6, 2, []), (88, .iload_n 3, 1, []), (89, .if_icmp .ge 37, 3, [126]), (92, .aload_n 0, 1, []), (93, .getfield 23, 3, []), (96, .aload_n 0, 1, []), (97, .getfield 224, 3, []), (100, .iload 6, 2, []), (102, .iadd, 1, []), (103, .lload_n 1, 1, []), (104, .bipush 8, 2, []), (106, .iload_n 3, 1, []), (107, .iconst 1, 1, []), (108, .isub, 1, []), (109, .iload 6, 2, []), (111, .isub, 1, []), (112, .imul, 1, []), (113, .lshr, 1, []), (114, .ldc2_w 260, 3, []), (117, .land, 1, []), (118, .l2i, 1, []), (119, .iastore, 1, []), (120, .iinc 6 1, 3, []), (123, .goto (-37), 3, [86]), (126, .aload_n 0, 1, []), (127, .dup, 1, []), (128, .getfield 224, 3, []), (131, .iload_n 3, 1, []), (132, .iadd, 1, []), (133, .putfield 224, 3, []), (136, .aload_n 0, 1, []), (137, .getfield 224, 3, []), (140, .ireturn, 1, [])]
theorem hCX7_put : ∀ q ∈ CX7_put, chk cX7_put q := by decide +kernel
theorem lCX7_put : lnk CX7_put = true := by decide +kernel
def CX7_putOrders : CL := [(0, .iconst 0, 1, []), (1, .istore_n 2, 1, []), (2, .iload_n 2, 1, []), (3, .bipush 16, 2, []), (5, .if_icmp .ge 21, 3, [26]), (8, .aload_n 0, 1, []), (9, .getfield 7, 3, []), (12, .bipush 49, 2, []), (14, .iload_n 2, 1, []), (15, .iadd, 1, []), (16, .aload_n 1, 1, []), (17, .iload_n 2, 1, []), (18, .iaload, 1, []), (19, .iastore, 1, []), (20, .iinc 2 1, 3, []), (23, .goto (-21), 3, [2]), (26, .return_, 1, [])]
theorem hCX7_putOrders : ∀ q ∈ CX7_putOrders, chk cX7_putOrders q := by decide +kernel
theorem lCX7_putOrders : lnk CX7_putOrders = true := by decide +kernel
def CX7_raiseHead : CL := [(0, .aload_n 0, 1, []), (1, .iload_n 1, 1, []), (2, .iconst 4, 1, []), (3, .idiv, 1, []), (4, .iconst 0, 1, []), (5, .invokevirtual 69, 3, []), (8, .aload_n 0, 1, []), (9, .getfield 26, 3, []), (12, .iload_n 1, 1, []), (13, .iaload, 1, []), (14, .invokestatic 108, 3, []), (17, .aload_n 0, 1, []), (18, .aload_n 0, 1, []), (19, .iload_n 1, 1, []), (20, .invokevirtual 111, 3, []), (23, .invokevirtual 114, 3, []), (26, .aload_n 0, 1, []), (27, .iload_n 2, 1, []), (28, .invokevirtual 114, 3, []), (31, .invokestatic 108, 3, []), (34, .invokestatic 108, 3, []), (37, .istore_n 3, 1, []), (38, .aload_n 0, 1, []), (39, .getfield 29, 3, []), (42, .iload_n 1, 1, []), (43, .baload, 1, []), (44, .ifCond .ne 13, 3, [57]), (47, .iload_n 3, 1, []), (48, .aload_n 0, 1, []), (49, .getfield 32, 3, []), (52, .iload_n 1, 1, []), (53, .iaload, 1, []), (54, .if_icmp .gt 5, 3, [59]), (57, .iconst 0, 1, []), (58, .ireturn, 1, []), (59, .aload_n 0, 1, []), (60, .getfield 32, 3, []), (63, .iload_n 1, 1, []), (64, .iload_n 3, 1, []), (65, .iastore, 1, []), (66, .iconst 1, 1, []), (67, .ireturn, 1, [])]
theorem hCX7_raiseHead : ∀ q ∈ CX7_raiseHead, chk cX7_raiseHead q := by decide +kernel
theorem lCX7_raiseHead : lnk CX7_raiseHead = true := by decide +kernel
def CX7_restore : CL := [(0, .iload_n 1, 1, []), (1, .iconst 0, 1, []), (2, .iconst 1, 1, []), (3, .invokestatic 87, 3, []), (6, .ifCond .ne 6, 3, [12]), (9, .bipush (-2), 2, []), (11, .ireturn, 1, []), (12, .aload_n 0, 1, []), (13, .getfield 19, 3, []), (16, .iload_n 1, 1, []), (17, .baload, 1, []), (18, .ifCond .ne 6, 3, [24]), (21, .bipush (-5), 2, []), (23, .ireturn, 1, []), (24, .aload_n 0, 1, []), (25, .invokevirtual 91, 3, []), (28, .iconst 0, 1, []), (29, .istore_n 2, 1, []), (30, .iload_n 2, 1, []), (31, .bipush 65, 2, []), (33, .if_icmp .ge 26, 3, [59]), (36, .aload_n 0, 1, []), (37, .getfield 7, 3, []), (40, .iload_n 2, 1, []), (41, .aload_n 0, 1, []), (42, .getfield 16, 3, []), (45, .bipush 65, 2, []), (47, .iload_n 1, 1, []), (48, .imul, 1, []), (49, .iload_n 2, 1, []), (50, .iadd, 1, []), (51, .iaload, 1, []), (52, .iastore, 1, []), (53, .iinc 2 1, 3, []), (56, .goto (-26), 3, [30]), (59, .aload_n 0, 1, []), (60, .getfield 7, 3, []), (63, .iconst 0, 1, []), (64, .iaload, 1, []), (65, .ireturn, 1, [])]
theorem hCX7_restore : ∀ q ∈ CX7_restore, chk cX7_restore q := by decide +kernel
theorem lCX7_restore : lnk CX7_restore = true := by decide +kernel
def CX7_save : CL := [(0, .iload_n 1, 1, []), (1, .iconst 0, 1, []), (2, .iconst 1, 1, []), (3, .invokestatic 87, 3, []), (6, .ifCond .ne 6, 3, [12]), (9, .bipush (-2), 2, []), (11, .ireturn, 1, []), (12, .iconst 0, 1, []), (13, .istore_n 2, 1, []), (14, .iload_n 2, 1, []), (15, .bipush 65, 2, []), (17, .if_icmp .ge 26, 3, [43]), (20, .aload_n 0, 1, []), (21, .getfield 16, 3, []), (24, .bipush 65, 2, []), (26, .iload_n 1, 1, []), (27, .imul, 1, []), (28, .iload_n 2, 1, []), (29, .iadd, 1, []), (30, .aload_n 0, 1, []), (31, .getfield 7, 3, []), (34, .iload_n 2, 1, []), (35, .iaload, 1, []), (36, .iastore, 1, []), (37, .iinc 2 1, 3, []), (40, .goto (-26), 3, [14]), (43, .aload_n 0, 1, []), (44, .getfield 19, 3, []), (47, .iload_n 1, 1, []), (48, .iconst 1, 1, []), (49, .bastore, 1, []), (50, .aload_n 0, 1, []), (51, .getfield 7, 3, []), (54, .iconst 0, 1, []), (55, .iaload, 1, []), (56, .ireturn, 1, [])]
theorem hCX7_save : ∀ q ∈ CX7_save, chk cX7_save q := by decide +kernel
theorem lCX7_save : lnk CX7_save = true := by decide +kernel
def CX7_search : CL := [(0, .ldc 171, 2, []), (2, .istore_n 1, 1, []), (3, .iconst 0, 1, []), (4, .istore_n 2, 1, []), (5, .aload_n 0, 1, []), (6, .getfield 47, 3, []), (9, .iconst 0, 1, []), (10, .iconst (-1), 1, []), (11, .iastore, 1, []), (12, .iload_n 2, 1, []), (13, .ifCond .lt 87, 3, [100]), (16, .aload_n 0, 1, []), (17, .getfield 47, 3, []), (20, .iload_n 2, 1, []), (21, .dup2, 1, []), (22, .iaload, 1, []), (23, .iconst 1, 1, []), (24, .iadd, 1, []), (25, .iastore, 1, []), (26, .aload_n 0, 1, []), (27, .getfield 47, 3, []), (30, .iload_n 2, 1, []), (31, .iaload, 1, []), (32, .aload_n 0, 1, []), (33, .getfield 44, 3, []), (36, .iload_n 2, 1, []), (37, .iaload, 1, []), (38, .if_icmp .ne 9, 3, [47]), (41, .iinc 2 (-1), 3, []), (44, .goto (-32), 3, [12]), (47, .aload_n 0, 1, []), (48, .iload_n 2, 1, []), (49, .invokevirtual 172, 3, []), (52, .aload_n 0, 1, []), (53, .iload_n 2, 1, []), (54, .iconst 1, 1, []), (55, .iadd, 1, []), (56, .invokevirtual 133, 3, []), (59, .ifCond .eq (-47), 3, [12]), (62, .aload_n 0, 1, []), (63, .invokevirtual 143, 3, []), (66, .iload_n 1, 1, []), (67, .if_icmp .ge (-55), 3, [12]), (70, .iload_n 2, 1, []), (71, .iconst 3, 1, []), (72, .if_icmp .ne 15, 3, [87]), (75, .aload_n 0, 1, []), (76, .invokevirtual 143, 3, []), (79, .istore_n 1, 1, []), (80, .aload_n 0, 1, []), (81, .invokevirtual 176, 3, []), (84, .goto (-72), 3, [12]), (87, .iinc 2 1, 3, []), (90, .aload_n 0, 1, []), (91, .getfield 47, 3, []), (94, .iload_n 2, 1, []), (95, .iconst (-1), 1, []), (96, .iastore, 1, []), (97, .goto (-85), 3, [12]), (100, .iload_n 1, 1, []), (101, .ireturn, 1, [])]
theorem hCX7_search : ∀ q ∈ CX7_search, chk cX7_search q := by decide +kernel
theorem lCX7_search : lnk CX7_search = true := by decide +kernel
def CX7_sumOf : CL := [(0, .iconst 0, 1, []), (1, .istore_n 2, 1, []), (2, .iconst 0, 1, []), (3, .istore_n 3, 1, []), (4, .iload_n 3, 1, []), (5, .aload_n 0, 1, []), (6, .iload_n 1, 1, []), (7, .iconst 2, 1, []), (8, .invokevirtual 69, 3, []), (11, .if_icmp .ge 21, 3, [32]), (14, .iload_n 2, 1, []), (15, .aload_n 0, 1, []), (16, .iconst 4, 1, []), (17, .iload_n 1, 1, []), (18, .imul, 1, []), (19, .iload_n 3, 1, []), (20, .iadd, 1, []), (21, .invokevirtual 105, 3, []), (24, .iadd, 1, []), (25, .istore_n 2, 1, []), (26, .iinc 3 1, 3, []), (29, .goto (-25), 3, [4]), (32, .iload_n 2, 1, []), (33, .ireturn, 1, [])]
theorem hCX7_sumOf : ∀ q ∈ CX7_sumOf, chk cX7_sumOf q := by decide +kernel
theorem lCX7_sumOf : lnk CX7_sumOf = true := by decide +kernel
def CX7_sumOfAll : CL := [(0, .iconst 0, 1, []), (1, .istore_n 2, 1, []), (2, .iconst 0, 1, []), (3, .istore_n 3, 1, []), (4, .iload_n 3, 1, []), (5, .aload_n 0, 1, []), (6, .getfield 7, 3, []), (9, .iconst 0, 1, []), (10, .iaload, 1, []), (11, .if_icmp .ge 30, 3, [41]), (14, .iload_n 2, 1, []), (15, .iload_n 1, 1, []), (16, .ifCond .eq 11, 3, [27]), (19, .aload_n 0, 1, []), (20, .iload_n 3, 1, []), (21, .invokevirtual 208, 3, []), (24, .goto 9, 3, [33]), (27, .aload_n 0, 1, []), (28, .iload_n 3, 1, []), (29, .iconst 2, 1, []), (30, .invokevirtual 69, 3, []), (33, .iadd, 1, []), (34, .istore_n 2, 1, []), (35, .iinc 3 1, 3, []), (38, .goto (-34), 3, [4]), (41, .iload_n 2, 1, []), (42, .ireturn, 1, [])]
theorem hCX7_sumOfAll : ∀ q ∈ CX7_sumOfAll, chk cX7_sumOfAll q := by decide +kernel
theorem lCX7_sumOfAll : lnk CX7_sumOfAll = true := by decide +kernel
def CX7_swap : CL := [(0, .iload_n 1, 1, []), (1, .iconst 0, 1, []), (2, .iconst 3, 1, []), (3, .invokestatic 87, 3, []), (6, .ifCond .ne 6, 3, [12]), (9, .bipush (-2), 2, []), (11, .ireturn, 1, []), (12, .iload_n 2, 1, []), (13, .ifCond .lt 18, 3, [31]), (16, .iload_n 2, 1, []), (17, .aload_n 0, 1, []), (18, .getfield 7, 3, []), (21, .bipush 45, 2, []), (23, .iload_n 1, 1, []), (24, .iadd, 1, []), (25, .iaload, 1, []), (26, .iconst 1, 1, []), (27, .isub, 1, []), (28, .if_icmp .lt 5, 3, [33]), (31, .iconst (-1), 1, []), (32, .ireturn, 1, []), (33, .aload_n 0, 1, []), (34, .invokevirtual 91, 3, []), (37, .aload_n 0, 1, []), (38, .iload_n 1, 1, []), (39, .iload_n 2, 1, []), (40, .invokevirtual 162, 3, []), (43, .aload_n 0, 1, []), (44, .invokevirtual 139, 3, []), (47, .ifCond .eq 7, 3, [54]), (50, .iconst 1, 1, []), (51, .goto 4, 3, [55]), (54, .iconst 0, 1, []), (55, .ireturn, 1, [])]
theorem hCX7_swap : ∀ q ∈ CX7_swap, chk cX7_swap q := by decide +kernel
theorem lCX7_swap : lnk CX7_swap = true := by decide +kernel
def CX7_tailAlone : CL := [(0, .iconst 0, 1, []), (1, .istore_n 2, 1, []), (2, .iload_n 1, 1, []), (3, .iconst 1, 1, []), (4, .iadd, 1, []), (5, .istore_n 3, 1, []), (6, .iload_n 3, 1, []), (7, .iload_n 1, 1, []), (8, .iload_n 1, 1, []), (9, .iconst 4, 1, []), (10, .irem, 1, []), (11, .isub, 1, []), (12, .aload_n 0, 1, []), (13, .iload_n 1, 1, []), (14, .iconst 4, 1, []), (15, .idiv, 1, []), (16, .iconst 2, 1, []), (17, .invokevirtual 69, 3, []), (20, .iadd, 1, []), (21, .if_icmp .ge 17, 3, [38]), (24, .iload_n 2, 1, []), (25, .aload_n 0, 1, []), (26, .iload_n 3, 1, []), (27, .invokevirtual 105, 3, []), (30, .iadd, 1, []), (31, .istore_n 2, 1, []), (32, .iinc 3 1, 3, []), (35, .goto (-29), 3, [6]), (38, .iload_n 2, 1, []), (39, .ireturn, 1, [])]
theorem hCX7_tailAlone : ∀ q ∈ CX7_tailAlone, chk cX7_tailAlone q := by decide +kernel
theorem lCX7_tailAlone : lnk CX7_tailAlone = true := by decide +kernel
def CX7_tailBy : CL := [(0, .aload_n 0, 1, []), (1, .aload_n 0, 1, []), (2, .iload_n 1, 1, []), (3, .invokevirtual 124, 3, []), (6, .invokevirtual 127, 3, []), (9, .istore_n 2, 1, []), (10, .iconst 0, 1, []), (11, .istore_n 3, 1, []), (12, .iload_n 3, 1, []), (13, .bipush 16, 2, []), (15, .if_icmp .ge 37, 3, [52]), (18, .aload_n 0, 1, []), (19, .aload_n 0, 1, []), (20, .getfield 59, 3, []), (23, .iload_n 3, 1, []), (24, .iaload, 1, []), (25, .iload_n 1, 1, []), (26, .invokevirtual 239, 3, []), (29, .ifCond .eq 15, 3, [44]), (32, .iload_n 2, 1, []), (33, .aload_n 0, 1, []), (34, .iload_n 3, 1, []), (35, .invokevirtual 127, 3, []), (38, .invokestatic 108, 3, []), (41, .goto 4, 3, [45]), (44, .iload_n 2, 1, []), (45, .istore_n 2, 1, []), (46, .iinc 3 1, 3, []), (49, .goto (-37), 3, [12]), (52, .iload_n 2, 1, []), (53, .ireturn, 1, [])]
theorem hCX7_tailBy : ∀ q ∈ CX7_tailBy, chk cX7_tailBy q := by decide +kernel
theorem lCX7_tailBy : lnk CX7_tailBy = true := by decide +kernel
def CX7_takeBest : CL := [(0, .aload_n 0, 1, []), (1, .invokevirtual 91, 3, []), (4, .aload_n 0, 1, []), (5, .invokevirtual 192, 3, []), (8, .istore_n 1, 1, []), (9, .aload_n 0, 1, []), (10, .aload_n 0, 1, []), (11, .getfield 50, 3, []), (14, .invokevirtual 188, 3, []), (17, .iload_n 1, 1, []), (18, .ireturn, 1, [])]
theorem hCX7_takeBest : ∀ q ∈ CX7_takeBest, chk cX7_takeBest q := by decide +kernel
theorem lCX7_takeBest : lnk CX7_takeBest = true := by decide +kernel
def CX7_takeDigit : CL := [(0, .aload_n 0, 1, []), (1, .aload_n 0, 1, []), (2, .getfield 265, 3, []), (5, .ifCond .ne 32, 3, [37]), (8, .aload_n 0, 1, []), (9, .invokevirtual 269, 3, []), (12, .bipush 48, 2, []), (14, .bipush 51, 2, []), (16, .invokestatic 87, 3, []), (19, .ifCond .eq 18, 3, [37]), (22, .iload_n 1, 1, []), (23, .aload_n 0, 1, []), (24, .invokevirtual 269, 3, []), (27, .bipush 48, 2, []), (29, .isub, 1, []), (30, .ishr, 1, []), (31, .iconst 1, 1, []), (32, .iand, 1, []), (33, .iconst 1, 1, []), (34, .if_icmp .ne 7, 3, [41]), (37, .iconst 1, 1, []), (38, .goto 4, 3, [42]), (41, .iconst 0, 1, []), (42, .putfield 265, 3, []), (45, .aload_n 0, 1, []), (46, .getfield 265, 3, []), (49, .ifCond .eq 5, 3, [54]), (52, .iconst 0, 1, []), (53, .ireturn, 1, []), (54, .aload_n 0, 1, []), (55, .dup, 1, []), (56, .getfield 262, 3, []), (59, .iconst 1, 1, []), (60, .iadd, 1, []), (61, .putfield 262, 3, []), (64, .aload_n 0, 1, []), (65, .getfield 23, 3, []), (68, .aload_n 0, 1, []), (69, .getfield 262, 3, []), (72, .iconst 1, 1, []), (73, .isub, 1, []), (74, .iaload, 1, []), (75, .bipush 48, 2, []), (77, .isub, 1, []), (78, .ireturn, 1, [])]
theorem hCX7_takeDigit : ∀ q ∈ CX7_takeDigit, chk cX7_takeDigit q := by decide +kernel
theorem lCX7_takeDigit : lnk CX7_takeDigit = true := by decide +kernel
def CX7_takeNumber : CL := [(0, .aload_n 0, 1, []), (1, .aload_n 0, 1, []), (2, .getfield 265, 3, []), (5, .ifCond .ne 26, 3, [31]), (8, .aload_n 0, 1, []), (9, .invokevirtual 269, 3, []), (12, .iload_n 1, 1, []), (13, .ifCond .le 8, 3, [21]), (16, .bipush 49, 2, []), (18, .goto 5, 3, [23]), (21, .bipush 48, 2, []), (23, .bipush 57, 2, []), (25, .invokestatic 87, 3, []), (28, .ifCond .ne 7, 3, [35]), (31, .iconst 1, 1, []), (32, .goto 4, 3, [36]), (35, .iconst 0, 1, []), (36, .putfield 265, 3, []), (39, .aload_n 0, 1, []), (40, .getfield 265, 3, []), (43, .ifCond .eq 5, 3, [48]), (46, .iconst 0, 1, []), (47, .ireturn, 1, []), (48, .aload_n 0, 1, []), (49, .invokevirtual 269, 3, []), (52, .bipush 48, 2, []), (54, .isub, 1, []), (55, .istore_n 3, 1, []), (56, .aload_n 0, 1, []), (57, .dup, 1, []), (58, .getfield 262, 3, []), (61, .iconst 1, 1, []), (62, .iadd, 1, []), (63, .putfield 262, 3, []), (66, .iload_n 3, 1, []), (67, .ifCond .le 59, 3, [126]), (70, .aload_n 0, 1, []), (71, .invokevirtual 269, 3, []), (74, .bipush 48, 2, []), (76, .bipush 57, 2, []), (78, .invokestatic 87, 3, []), (81, .ifCond .eq 45, 3, [126]), (84, .bipush 10, 2, []), (86, .iload_n 3, 1, []), (87, .imul, 1, []), (88, .aload_n 0, 1, []), (89, .invokevirtual 269, 3, []), (92, .iadd, 1, []), (93, .bipush 48, 2, []), (95, .isub, 1, []), (96, .iload_n 2, 1, []), (97, .if_icmp .gt 29, 3, [126]), (100, .bipush 10, 2, []), (102, .iload_n 3, 1, []), (103, .imul, 1, []), (104, .aload_n 0, 1, []), (105, .invokevirtual 269, 3, []), (108, .iadd, 1, []), (109, .bipush 48, 2, []), (111, .isub, 1, []), (112, .istore_n 3, 1, []), (113, .aload_n 0, 1, []), (114, .dup, 1, []), (115, .getfield 262, 3, []), (118, .iconst 1, 1, []), (119, .iadd, 1, []), (120, .putfield 262, 3, []), (123, .goto (-57), 3, [66]), (126, .iload_n 3, 1, []), (127, .ireturn, 1, [])]
theorem hCX7_takeNumber : ∀ q ∈ CX7_takeNumber, chk cX7_takeNumber q := by decide +kernel
theorem lCX7_takeNumber : lnk CX7_takeNumber = true := by decide +kernel
def CX7_takeOrder : CL := [(0, .bipush 11, 2, []), (2, .aload_n 0, 1, []), (3, .getfield 272, 3, []), (6, .imul, 1, []), (7, .istore_n 1, 1, []), (8, .iconst 0, 1, []), (9, .istore_n 2, 1, []), (10, .aload_n 0, 1, []), (11, .getfield 62, 3, []), (14, .iload_n 1, 1, []), (15, .aload_n 0, 1, []), (16, .aload_n 0, 1, []), (17, .getfield 284, 3, []), (20, .invokevirtual 281, 3, []), (23, .iastore, 1, []), (24, .aload_n 0, 1, []), (25, .dup, 1, []), (26, .getfield 284, 3, []), (29, .aload_n 0, 1, []), (30, .getfield 265, 3, []), (33, .ifCond .eq 7, 3, [40]), (36, .iconst 0, 1, []), (37, .goto 11, 3, [48]), (40, .iconst 1, 1, []), (41, .aload_n 0, 1, []), (42, .getfield 62, 3, []), (45, .iload_n 1, 1, []), (46, .iaload, 1, []), (47, .ishl, 1, []), (48, .ior, 1, []), (49, .putfield 284, 3, []), (52, .aload_n 0, 1, []), (53, .bipush 58, 2, []), (55, .invokevirtual 275, 3, []), (58, .aload_n 0, 1, []), (59, .getfield 62, 3, []), (62, .iload_n 1, 1, []), (63, .iconst 1, 1, []), (64, .iadd, 1, []), (65, .iconst 0, 1, []), (66, .iastore, 1, []), (67, .aload_n 0, 1, []), (68, .getfield 265, 3, []), (71, .ifCond .ne 76, 3, [147]), (74, .aload_n 0, 1, []), (75, .invokevirtual 269, 3, []), (78, .bipush 48, 2, []), (80, .bipush 51, 2, []), (82, .invokestatic 87, 3, []), (85, .ifCond .eq 62, 3, [147]), (88, .iload_n 2, 1, []), (89, .aload_n 0, 1, []), (90, .invokevirtual 269, 3, []), (93, .bipush 48, 2, []), (95, .isub, 1, []), (96, .ishr, 1, []), (97, .iconst 1, 1, []), (98, .iand, 1, []), (99, .ifCond .ne 48, 3, [147]), (102, .aload_n 0, 1, []), (103, .iload_n 2, 1, []), (104, .invokevirtual 281, 3, []), (107, .istore_n 3, 1, []), (108, .iload_n 2, 1, []), (109, .iconst 1, 1, []), (110, .iload_n 3, 1, []), (111, .ishl, 1, []), (112, .ior, 1, []), (113, .istore_n 2, 1, []), (114, .aload_n 0, 1, []), (115, .getfield 62, 3, []), (118, .iload_n 1, 1, []), (119, .iconst 2, 1, []), (120, .iadd, 1, []), (121, .aload_n 0, 1, []), (122, .getfield 62, 3, []), (125, .iload_n 1, 1, []), (126, .iconst 1, 1, []), (127, .iadd, 1, []), (128, .iaload, 1, []), (129, .iadd, 1, []), (130, .iload_n 3, 1, []), (131, .iastore, 1, []), (132, .aload_n 0, 1, []), (133, .getfield 62, 3, []), (136, .iload_n 1, 1, []), (137, .iconst 1, 1, []), (138, .iadd, 1, []), (139, .dup2, 1, []), (140, .iaload, 1, []), (141, .iconst 1, 1, []), (142, .iadd, 1, []), (143, .iastore, 1, []), (144, .goto (-77), 3, [67]), (147, .aload_n 0, 1, []), (148, .dup, 1, []), (149, .getfield 272, 3, []), (152, .iconst 1, 1, []), (153, .iadd, 1, []), (154, .putfield 272, 3, []), (157, .return_, 1, [])]
theorem hCX7_takeOrder : ∀ q ∈ CX7_takeOrder, chk cX7_takeOrder q := by decide +kernel
theorem lCX7_takeOrder : lnk CX7_takeOrder = true := by decide +kernel
def CX7_takePart : CL := [(0, .iload_n 1, 1, []), (1, .ifCond .ne 10, 3, [11]), (4, .aload_n 0, 1, []), (5, .invokevirtual 287, 3, []), (8, .goto 7, 3, [15]), (11, .aload_n 0, 1, []), (12, .invokevirtual 290, 3, []), (15, .return_, 1, [])]
theorem hCX7_takePart : ∀ q ∈ CX7_takePart, chk cX7_takePart q := by decide +kernel
theorem lCX7_takePart : lnk CX7_takePart = true := by decide +kernel
def CX7_takeRoute : CL := [(0, .bipush 11, 2, []), (2, .aload_n 0, 1, []), (3, .getfield 272, 3, []), (6, .imul, 1, []), (7, .istore_n 1, 1, []), (8, .iconst 0, 1, []), (9, .istore_n 2, 1, []), (10, .aload_n 0, 1, []), (11, .bipush 114, 2, []), (13, .invokevirtual 275, 3, []), (16, .aload_n 0, 1, []), (17, .getfield 62, 3, []), (20, .iload_n 1, 1, []), (21, .aload_n 0, 1, []), (22, .iconst 0, 1, []), (23, .bipush 50, 2, []), (25, .invokevirtual 278, 3, []), (28, .iastore, 1, []), (29, .aload_n 0, 1, []), (30, .bipush 100, 2, []), (32, .invokevirtual 275, 3, []), (35, .aload_n 0, 1, []), (36, .getfield 62, 3, []), (39, .iload_n 1, 1, []), (40, .iconst 1, 1, []), (41, .iadd, 1, []), (42, .aload_n 0, 1, []), (43, .iconst 0, 1, []), (44, .sipush 200, 3, []), (47, .invokevirtual 278, 3, []), (50, .iastore, 1, []), (51, .aload_n 0, 1, []), (52, .getfield 62, 3, []), (55, .iload_n 1, 1, []), (56, .iconst 2, 1, []), (57, .iadd, 1, []), (58, .iconst 0, 1, []), (59, .iastore, 1, []), (60, .aload_n 0, 1, []), (61, .getfield 265, 3, []), (64, .ifCond .ne 113, 3, [177]), (67, .aload_n 0, 1, []), (68, .invokevirtual 269, 3, []), (71, .bipush 44, 2, []), (73, .if_icmp .ne 104, 3, [177]), (76, .aload_n 0, 1, []), (77, .getfield 62, 3, []), (80, .iload_n 1, 1, []), (81, .iconst 2, 1, []), (82, .iadd, 1, []), (83, .iaload, 1, []), (84, .iconst 4, 1, []), (85, .if_icmp .ge 92, 3, [177]), (88, .aload_n 0, 1, []), (89, .dup, 1, []), (90, .getfield 262, 3, []), (93, .iconst 1, 1, []), (94, .iadd, 1, []), (95, .putfield 262, 3, []), (98, .aload_n 0, 1, []), (99, .iload_n 2, 1, []), (100, .invokevirtual 281, 3, []), (103, .istore_n 3, 1, []), (104, .iload_n 2, 1, []), (105, .iconst 1, 1, []), (106, .iload_n 3, 1, []), (107, .ishl, 1, []), (108, .ior, 1, []), (109, .istore_n 2, 1, []), (110, .aload_n 0, 1, []), (111, .bipush 42, 2, []), (113, .invokevirtual 275, 3, []), (116, .aload_n 0, 1, []), (117, .getfield 62, 3, []), (120, .iload_n 1, 1, []), (121, .iconst 3, 1, []), (122, .iadd, 1, []), (123, .iconst 2, 1, []), (124, .aload_n 0, 1, []), (125, .getfield 62, 3, []), (128, .iload_n 1, 1, []), (129, .iconst 2, 1, []), (130, .iadd, 1, []), (131, .iaload, 1, []), (132, .imul, 1, []), (133, .iadd, 1, []), (134, .iload_n 3, 1, []), (135, .iastore, 1, []), (136, .aload_n 0, 1, []), (137, .getfield 62, 3, []), (140, .iload_n 1, 1, []), (141, .iconst 4, 1, []), (142, .iadd, 1, []), (143, .iconst 2, 1, []), (144, .aload_n 0, 1, []), (145, .getfield 62, 3, []), (148, .iload_n 1, 1, []), (149, .iconst 2, 1, []), (150, .iadd, 1, []), (151, .iaload, 1, []), (152, .imul, 1, []), (153, .iadd, 1, []), (154, .aload_n 0, 1, []), (155, .iconst 1, 1, []), (156, .bipush 20, 2, []), (158, .invokevirtual 278, 3, []), (161, .iastore, 1, []), (162, .aload_n 0, 1, []), (163, .getfield 62, 3, []), (166, .iload_n 1, 1, []), (167, .iconst 2, 1, []), (168, .iadd, 1, []), (169, .dup2, 1, []), (170, .iaload, 1, []), (171, .iconst 1, 1, []), (172, .iadd, 1, []), (173, .iastore, 1, []), (174, .goto (-114), 3, [60]), (177, .aload_n 0, 1, []), (178, .dup, 1, []), (179, .getfield 272, 3, []), (182, .iconst 1, 1, []), (183, .iadd, 1, []), (184, .putfield 272, 3, []), (187, .return_, 1, [])]
theorem hCX7_takeRoute : ∀ q ∈ CX7_takeRoute, chk cX7_takeRoute q := by decide +kernel
theorem lCX7_takeRoute : lnk CX7_takeRoute = true := by decide +kernel
def CX7_throughOf : CL := [(0, .aload_n 0, 1, []), (1, .getfield 32, 3, []), (4, .iload_n 1, 1, []), (5, .iaload, 1, []), (6, .aload_n 0, 1, []), (7, .iload_n 1, 1, []), (8, .invokevirtual 105, 3, []), (11, .iadd, 1, []), (12, .aload_n 0, 1, []), (13, .getfield 35, 3, []), (16, .iload_n 1, 1, []), (17, .iaload, 1, []), (18, .iadd, 1, []), (19, .ireturn, 1, [])]
theorem hCX7_throughOf : ∀ q ∈ CX7_throughOf, chk cX7_throughOf q := by decide +kernel
theorem lCX7_throughOf : lnk CX7_throughOf = true := by decide +kernel
def CX7_undo : CL := [(0, .aload_n 0, 1, []), (1, .getfield 83, 3, []), (4, .ifCond .ne 6, 3, [10]), (7, .bipush (-5), 2, []), (9, .ireturn, 1, []), (10, .aload_n 0, 1, []), (11, .dup, 1, []), (12, .getfield 83, 3, []), (15, .iconst 1, 1, []), (16, .isub, 1, []), (17, .putfield 83, 3, []), (20, .iconst 0, 1, []), (21, .istore_n 1, 1, []), (22, .iload_n 1, 1, []), (23, .bipush 65, 2, []), (25, .if_icmp .ge 29, 3, [54]), (28, .aload_n 0, 1, []), (29, .getfield 7, 3, []), (32, .iload_n 1, 1, []), (33, .aload_n 0, 1, []), (34, .getfield 13, 3, []), (37, .bipush 65, 2, []), (39, .aload_n 0, 1, []), (40, .getfield 83, 3, []), (43, .imul, 1, []), (44, .iload_n 1, 1, []), (45, .iadd, 1, []), (46, .iaload, 1, []), (47, .iastore, 1, []), (48, .iinc 1 1, 3, []), (51, .goto (-29), 3, [22]), (54, .aload_n 0, 1, []), (55, .getfield 83, 3, []), (58, .ireturn, 1, [])]
theorem hCX7_undo : ∀ q ∈ CX7_undo, chk cX7_undo q := by decide +kernel
theorem lCX7_undo : lnk CX7_undo = true := by decide +kernel
def CX7_wipe : CL := [(0, .aload_n 0, 1, []), (1, .getfield 224, 3, []), (4, .istore_n 1, 1, []), (5, .aload_n 0, 1, []), (6, .iconst 0, 1, []), (7, .putfield 224, 3, []), (10, .iload_n 1, 1, []), (11, .ireturn, 1, [])]
theorem hCX7_wipe : ∀ q ∈ CX7_wipe, chk cX7_wipe q := by decide +kernel
theorem lCX7_wipe : lnk CX7_wipe = true := by decide +kernel
def CX7_withTail : CL := [(0, .iload_n 1, 1, []), (1, .ifCond .ge 7, 3, [8]), (4, .iconst 0, 1, []), (5, .goto 15, 3, [20]), (8, .aload_n 0, 1, []), (9, .iload_n 1, 1, []), (10, .invokevirtual 105, 3, []), (13, .aload_n 0, 1, []), (14, .getfield 35, 3, []), (17, .iload_n 1, 1, []), (18, .iaload, 1, []), (19, .iadd, 1, []), (20, .ireturn, 1, [])]
theorem hCX7_withTail : ∀ q ∈ CX7_withTail, chk cX7_withTail q := by decide +kernel
theorem lCX7_withTail : lnk CX7_withTail = true := by decide +kernel
def CX7_workedOn : CL := [(0, .bipush (-6), 2, []), (2, .istore_n 3, 1, []), (3, .iconst 0, 1, []), (4, .istore 4, 2, []), (6, .iload 4, 2, []), (8, .bipush 16, 2, []), (10, .if_icmp .ge 73, 3, [83]), (13, .aload_n 0, 1, []), (14, .iload 4, 2, []), (16, .invokevirtual 102, 3, []), (19, .ifCond .eq 58, 3, [77]), (22, .aload_n 0, 1, []), (23, .iload 4, 2, []), (25, .invokevirtual 73, 3, []), (28, .iload_n 1, 1, []), (29, .if_icmp .ne 48, 3, [77]), (32, .aload_n 0, 1, []), (33, .getfield 56, 3, []), (36, .iload 4, 2, []), (38, .iaload, 1, []), (39, .ifCond .le 38, 3, [77]), (42, .aload_n 0, 1, []), (43, .iload 4, 2, []), (45, .invokevirtual 227, 3, []), (48, .iload_n 2, 1, []), (49, .if_icmp .gt 28, 3, [77]), (52, .iload_n 3, 1, []), (53, .ifCond .lt 17, 3, [70]), (56, .aload_n 0, 1, []), (57, .iload 4, 2, []), (59, .invokevirtual 230, 3, []), (62, .aload_n 0, 1, []), (63, .iload_n 3, 1, []), (64, .invokevirtual 230, 3, []), (67, .if_icmp .le 8, 3, [75]), (70, .iload 4, 2, []), (72, .goto 4, 3, [76]), (75, .iload_n 3, 1, []), (76, .istore_n 3, 1, []), (77, .iinc 4 1, 3, []), (80, .goto (-74), 3, [6]), (83, .iload_n 3, 1, []), (84, .ireturn, 1, [])]
theorem hCX7_workedOn : ∀ q ∈ CX7_workedOn, chk cX7_workedOn q := by decide +kernel
theorem lCX7_workedOn : lnk CX7_workedOn = true := by decide +kernel
end
section
theorem inRL : Cond.initialized RL ∈ lw_g := mg 97 (by decide +kernel) rfl
theorem inRX0 : Cond.initialized RX0 ∈ lw_g := mg 100 (by decide +kernel) rfl
theorem inRX1 : Cond.initialized RX1 ∈ lw_g := mg 102 (by decide +kernel) rfl
theorem inRX2 : Cond.initialized RX2 ∈ lw_g := mg 101 (by decide +kernel) rfl
theorem inRX3 : Cond.initialized RX3 ∈ lw_g := mg 103 (by decide +kernel) rfl
theorem inRX4 : Cond.initialized RX4 ∈ lw_g := mg 104 (by decide +kernel) rfl
theorem inRX5 : Cond.initialized RX5 ∈ lw_g := mg 99 (by decide +kernel) rfl
theorem inRX6 : Cond.initialized RX6 ∈ lw_g := mg 98 (by decide +kernel) rfl
theorem inRX7 : Cond.initialized RX7 ∈ lw_g := mg 105 (by decide +kernel) rfl
set_option maxRecDepth 100000 in
theorem FX0_record : MF yX0_record cX0_record 2 none 0 1 := ⟨⟨mg 378 (by decide +kernel) rfl, mg 379 (by decide +kernel) rfl, inRX0, mg 380 rfl rfl⟩, ⟨_, rfl, rfl⟩, ⟨by decide +kernel, by decide +kernel, by decide +kernel⟩, by decide⟩
set_option maxRecDepth 100000 in
theorem FX0_takeBack : MF yX0_takeBack cX0_takeBack 2 none 0 1 := ⟨⟨mg 805 (by decide +kernel) rfl, mg 806 (by decide +kernel) rfl, inRX0, mg 807 rfl rfl⟩, ⟨_, rfl, rfl⟩, ⟨by decide +kernel, by decide +kernel, by decide +kernel⟩, by decide⟩
set_option maxRecDepth 100000 in
theorem FX1_boundOf : MF yX1_boundOf cX1_boundOf 9 (some .int) 1 1 := ⟨⟨mg 534 (by decide +kernel) rfl, mg 535 (by decide +kernel) rfl, inRX1, mg 536 rfl rfl⟩, ⟨_, rfl, rfl⟩, ⟨by decide +kernel, by decide +kernel, by decide +kernel⟩, by decide⟩
set_option maxRecDepth 100000 in
theorem FX1_decide : MF yX1_decide cX1_decide 3 none 1 2 := ⟨⟨mg 571 (by decide +kernel) rfl, mg 572 (by decide +kernel) rfl, inRX1, mg 573 rfl rfl⟩, ⟨_, rfl, rfl⟩, ⟨by decide +kernel, by decide +kernel, by decide +kernel⟩, by decide⟩
set_option maxRecDepth 100000 in
theorem FX1_decidedPairs : MF yX1_decidedPairs cX1_decidedPairs 4 (some .int) 1 0 := ⟨⟨mg 683 (by decide +kernel) rfl, mg 684 (by decide +kernel) rfl, inRX1, mg 685 rfl rfl⟩, ⟨_, rfl, rfl⟩, ⟨by decide +kernel, by decide +kernel, by decide +kernel⟩, by decide⟩
set_option maxRecDepth 100000 in
theorem FX1_endOf : MF yX1_endOf cX1_endOf 2 (some .int) 1 1 := ⟨⟨mg 477 (by decide +kernel) rfl, mg 478 (by decide +kernel) rfl, inRX1, mg 479 rfl rfl⟩, ⟨_, rfl, rfl⟩, ⟨by decide +kernel, by decide +kernel, by decide +kernel⟩, by decide⟩
set_option maxRecDepth 100000 in
theorem FX1_followOrder : MF yX1_followOrder cX1_followOrder 7 none 1 3 := ⟨⟨mg 449 (by decide +kernel) rfl, mg 450 (by decide +kernel) rfl, inRX1, mg 451 rfl rfl⟩, ⟨_, rfl, rfl⟩, ⟨by decide +kernel, by decide +kernel, by decide +kernel⟩, by decide⟩
set_option maxRecDepth 100000 in
theorem FX1_followOrders : MF yX1_followOrders cX1_followOrders 3 none 1 1 := ⟨⟨mg 445 (by decide +kernel) rfl, mg 446 (by decide +kernel) rfl, inRX1, mg 447 rfl rfl⟩, ⟨_, rfl, rfl⟩, ⟨by decide +kernel, by decide +kernel, by decide +kernel⟩, by decide⟩
set_option maxRecDepth 100000 in
theorem FX1_forceOn : MF yX1_forceOn cX1_forceOn 10 (some .int) 1 2 := ⟨⟨mg 556 (by decide +kernel) rfl, mg 12 (by decide +kernel) rfl, inRX1, mg 557 rfl rfl⟩, ⟨_, rfl, rfl⟩, ⟨by decide +kernel, by decide +kernel, by decide +kernel⟩, by decide⟩
set_option maxRecDepth 100000 in
theorem FX1_goesAhead : MF yX1_goesAhead cX1_goesAhead 3 (some .boolean) 1 2 := ⟨⟨mg 563 (by decide +kernel) rfl, mg 564 (by decide +kernel) rfl, inRX1, mg 565 rfl rfl⟩, ⟨_, rfl, rfl⟩, ⟨by decide +kernel, by decide +kernel, by decide +kernel⟩, by decide⟩
set_option maxRecDepth 100000 in
theorem FX1_greatestBound : MF yX1_greatestBound cX1_greatestBound 4 (some .int) 1 0 := ⟨⟨mg 530 (by decide +kernel) rfl, mg 531 (by decide +kernel) rfl, inRX1, mg 532 rfl rfl⟩, ⟨_, rfl, rfl⟩, ⟨by decide +kernel, by decide +kernel, by decide +kernel⟩, by decide⟩
set_option maxRecDepth 100000 in
theorem FX1_headOf : MF yX1_headOf cX1_headOf 7 (some .int) 1 1 := ⟨⟨mg 470 (by decide +kernel) rfl, mg 4 (by decide +kernel) rfl, inRX1, mg 471 rfl rfl⟩, ⟨_, rfl, rfl⟩, ⟨by decide +kernel, by decide +kernel, by decide +kernel⟩, by decide⟩
set_option maxRecDepth 100000 in
theorem FX1_holdBack : MF yX1_holdBack cX1_holdBack 3 none 1 2 := ⟨⟨mg 709 (by decide +kernel) rfl, mg 710 (by decide +kernel) rfl, inRX1, mg 711 rfl rfl⟩, ⟨_, rfl, rfl⟩, ⟨by decide +kernel, by decide +kernel, by decide +kernel⟩, by decide⟩
set_option maxRecDepth 100000 in
theorem FX1_jobsOn : MF yX1_jobsOn cX1_jobsOn 4 (some .int) 1 1 := ⟨⟨mg 453 (by decide +kernel) rfl, mg 454 (by decide +kernel) rfl, inRX1, mg 455 rfl rfl⟩, ⟨_, rfl, rfl⟩, ⟨by decide +kernel, by decide +kernel, by decide +kernel⟩, by decide⟩
set_option maxRecDepth 100000 in
theorem FX1_keeps : MF yX1_keeps cX1_keeps 6 (some .boolean) 1 1 := ⟨⟨mg 550 (by decide +kernel) rfl, mg 551 (by decide +kernel) rfl, inRX1, mg 552 rfl rfl⟩, ⟨_, rfl, rfl⟩, ⟨by decide +kernel, by decide +kernel, by decide +kernel⟩, by decide⟩
set_option maxRecDepth 100000 in
theorem FX1_letFirst : MF yX1_letFirst cX1_letFirst 6 none 1 3 := ⟨⟨mg 457 (by decide +kernel) rfl, mg 458 (by decide +kernel) rfl, inRX1, mg 459 rfl rfl⟩, ⟨_, rfl, rfl⟩, ⟨by decide +kernel, by decide +kernel, by decide +kernel⟩, by decide⟩
set_option maxRecDepth 100000 in
theorem FX1_load : MF yX1_load cX1_load 5 none 1 1 := ⟨⟨mg 440 (by decide +kernel) rfl, mg 441 (by decide +kernel) rfl, inRX1, mg 442 rfl rfl⟩, ⟨_, rfl, rfl⟩, ⟨by decide +kernel, by decide +kernel, by decide +kernel⟩, by decide⟩
set_option maxRecDepth 100000 in
theorem FX1_longestPair : MF yX1_longestPair cX1_longestPair 9 (some .int) 1 0 := ⟨⟨mg 575 (by decide +kernel) rfl, mg 576 (by decide +kernel) rfl, inRX1, mg 577 rfl rfl⟩, ⟨_, rfl, rfl⟩, ⟨by decide +kernel, by decide +kernel, by decide +kernel⟩, by decide⟩
set_option maxRecDepth 100000 in
theorem FX1_measure : MF yX1_measure cX1_measure 5 (some .boolean) 1 0 := ⟨⟨mg 461 (by decide +kernel) rfl, mg 462 (by decide +kernel) rfl, inRX1, mg 463 rfl rfl⟩, ⟨_, rfl, rfl⟩, ⟨by decide +kernel, by decide +kernel, by decide +kernel⟩, by decide⟩
set_option maxRecDepth 100000 in
theorem FX1_mostUrgent : MF yX1_mostUrgent cX1_mostUrgent 7 (some .int) 1 2 := ⟨⟨mg 543 (by decide +kernel) rfl, mg 10 (by decide +kernel) rfl, inRX1, mg 544 rfl rfl⟩, ⟨_, rfl, rfl⟩, ⟨by decide +kernel, by decide +kernel, by decide +kernel⟩, by decide⟩
set_option maxRecDepth 100000 in
theorem FX1_nextHead : MF yX1_nextHead cX1_nextHead 6 (some .int) 1 2 := ⟨⟨mg 539 (by decide +kernel) rfl, mg 9 (by decide +kernel) rfl, inRX1, mg 540 rfl rfl⟩, ⟨_, rfl, rfl⟩, ⟨by decide +kernel, by decide +kernel, by decide +kernel⟩, by decide⟩
set_option maxRecDepth 100000 in
theorem FX1_slackOf : MF yX1_slackOf cX1_slackOf 2 (some .int) 1 1 := ⟨⟨mg 490 (by decide +kernel) rfl, mg 491 (by decide +kernel) rfl, inRX1, mg 492 rfl rfl⟩, ⟨_, rfl, rfl⟩, ⟨by decide +kernel, by decide +kernel, by decide +kernel⟩, by decide⟩
set_option maxRecDepth 100000 in
theorem FX1_sortAlong : MF yX1_sortAlong cX1_sortAlong 4 none 1 1 := ⟨⟨mg 466 (by decide +kernel) rfl, mg 3 (by decide +kernel) rfl, inRX1, mg 467 rfl rfl⟩, ⟨_, rfl, rfl⟩, ⟨by decide +kernel, by decide +kernel, by decide +kernel⟩, by decide⟩
set_option maxRecDepth 100000 in
theorem FX1_tailOf : MF yX1_tailOf cX1_tailOf 7 (some .int) 1 1 := ⟨⟨mg 474 (by decide +kernel) rfl, mg 5 (by decide +kernel) rfl, inRX1, mg 475 rfl rfl⟩, ⟨_, rfl, rfl⟩, ⟨by decide +kernel, by decide +kernel, by decide +kernel⟩, by decide⟩
set_option maxRecDepth 100000 in
theorem FX1_undecided : MF yX1_undecided cX1_undecided 3 (some .boolean) 1 2 := ⟨⟨mg 560 (by decide +kernel) rfl, mg 13 (by decide +kernel) rfl, inRX1, mg 561 rfl rfl⟩, ⟨_, rfl, rfl⟩, ⟨by decide +kernel, by decide +kernel, by decide +kernel⟩, by decide⟩
set_option maxRecDepth 100000 in
theorem FX1_wayThrough : MF yX1_wayThrough cX1_wayThrough 3 (some .int) 1 2 := ⟨⟨mg 568 (by decide +kernel) rfl, mg 14 (by decide +kernel) rfl, inRX1, mg 569 rfl rfl⟩, ⟨_, rfl, rfl⟩, ⟨by decide +kernel, by decide +kernel, by decide +kernel⟩, by decide⟩
set_option maxRecDepth 100000 in
theorem FX2_anotherJobFor : MF yX2_anotherJobFor cX2_anotherJobFor 3 (some .boolean) 2 1 := ⟨⟨mg 782 (by decide +kernel) rfl, mg 32 (by decide +kernel) rfl, inRX2, mg 783 rfl rfl⟩, ⟨_, rfl, rfl⟩, ⟨by decide +kernel, by decide +kernel, by decide +kernel⟩, by decide⟩
set_option maxRecDepth 100000 in
theorem FX2_append : MF yX2_append cX2_append 2 none 2 1 := ⟨⟨mg 722 (by decide +kernel) rfl, mg 723 (by decide +kernel) rfl, inRX2, mg 724 rfl rfl⟩, ⟨_, rfl, rfl⟩, ⟨by decide +kernel, by decide +kernel, by decide +kernel⟩, by decide⟩
set_option maxRecDepth 100000 in
theorem FX2_digit : MF yX2_digit cX2_digit 1 (some .int) 2 0 := ⟨⟨mg 755 (by decide +kernel) rfl, mg 29 (by decide +kernel) rfl, inRX2, mg 756 rfl rfl⟩, ⟨_, rfl, rfl⟩, ⟨by decide +kernel, by decide +kernel, by decide +kernel⟩, by decide⟩
set_option maxRecDepth 100000 in
theorem FX2_names : MF yX2_names cX2_names 2 (some .boolean) 2 1 := ⟨⟨mg 773 (by decide +kernel) rfl, mg 774 (by decide +kernel) rfl, inRX2, mg 775 rfl rfl⟩, ⟨_, rfl, rfl⟩, ⟨by decide +kernel, by decide +kernel, by decide +kernel⟩, by decide⟩
set_option maxRecDepth 100000 in
theorem FX2_number : MF yX2_number cX2_number 4 (some .int) 2 2 := ⟨⟨mg 751 (by decide +kernel) rfl, mg 28 (by decide +kernel) rfl, inRX2, mg 752 rfl rfl⟩, ⟨_, rfl, rfl⟩, ⟨by decide +kernel, by decide +kernel, by decide +kernel⟩, by decide⟩
set_option maxRecDepth 100000 in
theorem FX2_readJob : MF yX2_readJob cX2_readJob 6 (some .boolean) 2 1 := ⟨⟨mg 743 (by decide +kernel) rfl, mg 26 (by decide +kernel) rfl, inRX2, mg 744 rfl rfl⟩, ⟨_, rfl, rfl⟩, ⟨by decide +kernel, by decide +kernel, by decide +kernel⟩, by decide⟩
set_option maxRecDepth 100000 in
theorem FX2_readOperation : MF yX2_readOperation cX2_readOperation 5 (some .boolean) 2 2 := ⟨⟨mg 760 (by decide +kernel) rfl, mg 30 (by decide +kernel) rfl, inRX2, mg 761 rfl rfl⟩, ⟨_, rfl, rfl⟩, ⟨by decide +kernel, by decide +kernel, by decide +kernel⟩, by decide⟩
set_option maxRecDepth 100000 in
theorem FX2_readOrder : MF yX2_readOrder cX2_readOrder 4 (some .boolean) 2 1 := ⟨⟨mg 770 (by decide +kernel) rfl, mg 31 (by decide +kernel) rfl, inRX2, mg 771 rfl rfl⟩, ⟨_, rfl, rfl⟩, ⟨by decide +kernel, by decide +kernel, by decide +kernel⟩, by decide⟩
set_option maxRecDepth 100000 in
theorem FX2_readPlan : MF yX2_readPlan cX2_readPlan 4 (some .int) 2 1 := ⟨⟨mg 765 (by decide +kernel) rfl, mg 766 (by decide +kernel) rfl, inRX2, mg 767 rfl rfl⟩, ⟨_, rfl, rfl⟩, ⟨by decide +kernel, by decide +kernel, by decide +kernel⟩, by decide⟩
set_option maxRecDepth 100000 in
theorem FX2_readRoutes : MF yX2_readRoutes cX2_readRoutes 4 (some .int) 2 1 := ⟨⟨mg 734 (by decide +kernel) rfl, mg 735 (by decide +kernel) rfl, inRX2, mg 736 rfl rfl⟩, ⟨_, rfl, rfl⟩, ⟨by decide +kernel, by decide +kernel, by decide +kernel⟩, by decide⟩
set_option maxRecDepth 100000 in
theorem FX2_take : MF yX2_take cX2_take 2 (some .boolean) 2 1 := ⟨⟨mg 747 (by decide +kernel) rfl, mg 27 (by decide +kernel) rfl, inRX2, mg 748 rfl rfl⟩, ⟨_, rfl, rfl⟩, ⟨by decide +kernel, by decide +kernel, by decide +kernel⟩, by decide⟩
set_option maxRecDepth 100000 in
theorem FX3_blocks : MF yX3_blocks cX3_blocks 4 (some .int) 3 1 := ⟨⟨mg 660 (by decide +kernel) rfl, mg 661 (by decide +kernel) rfl, inRX3, mg 662 rfl rfl⟩, ⟨_, rfl, rfl⟩, ⟨by decide +kernel, by decide +kernel, by decide +kernel⟩, by decide⟩
set_option maxRecDepth 100000 in
theorem FX3_first : MF yX3_first cX3_first 4 (some .int) 3 2 := ⟨⟨mg 486 (by decide +kernel) rfl, mg 6 (by decide +kernel) rfl, inRX3, mg 487 rfl rfl⟩, ⟨_, rfl, rfl⟩, ⟨by decide +kernel, by decide +kernel, by decide +kernel⟩, by decide⟩
set_option maxRecDepth 100000 in
theorem FX3_goesOn : MF yX3_goesOn cX3_goesOn 4 (some .boolean) 3 3 := ⟨⟨mg 500 (by decide +kernel) rfl, mg 8 (by decide +kernel) rfl, inRX3, mg 501 rfl rfl⟩, ⟨_, rfl, rfl⟩, ⟨by decide +kernel, by decide +kernel, by decide +kernel⟩, by decide⟩
set_option maxRecDepth 100000 in
theorem FX3_next : MF yX3_next cX3_next 6 (some .int) 3 3 := ⟨⟨mg 495 (by decide +kernel) rfl, mg 7 (by decide +kernel) rfl, inRX3, mg 496 rfl rfl⟩, ⟨_, rfl, rfl⟩, ⟨by decide +kernel, by decide +kernel, by decide +kernel⟩, by decide⟩
set_option maxRecDepth 100000 in
theorem FX3_placeOf : MF yX3_placeOf cX3_placeOf 3 (some .int) 3 1 := ⟨⟨mg 613 (by decide +kernel) rfl, mg 614 (by decide +kernel) rfl, inRX3, mg 615 rfl rfl⟩, ⟨_, rfl, rfl⟩, ⟨by decide +kernel, by decide +kernel, by decide +kernel⟩, by decide⟩
set_option maxRecDepth 100000 in
theorem FX3_trace : MF yX3_trace cX3_trace 4 none 3 2 := ⟨⟨mg 481 (by decide +kernel) rfl, mg 482 (by decide +kernel) rfl, inRX3, mg 483 rfl rfl⟩, ⟨_, rfl, rfl⟩, ⟨by decide +kernel, by decide +kernel, by decide +kernel⟩, by decide⟩
set_option maxRecDepth 100000 in
theorem FX4_complete : MF yX4_complete cX4_complete 6 (some .boolean) 4 2 := ⟨⟨mg 547 (by decide +kernel) rfl, mg 11 (by decide +kernel) rfl, inRX4, mg 548 rfl rfl⟩, ⟨_, rfl, rfl⟩, ⟨by decide +kernel, by decide +kernel, by decide +kernel⟩, by decide⟩
set_option maxRecDepth 100000 in
theorem FX4_find : MF yX4_find cX4_find 2 none 4 0 := ⟨⟨mg 524 (by decide +kernel) rfl, mg 525 (by decide +kernel) rfl, inRX4, mg 526 rfl rfl⟩, ⟨_, rfl, rfl⟩, ⟨by decide +kernel, by decide +kernel, by decide +kernel⟩, by decide⟩
set_option maxRecDepth 100000 in
theorem FX4_jobsLeft : MF yX4_jobsLeft cX4_jobsLeft 5 (some .int) 4 1 := ⟨⟨mg 585 (by decide +kernel) rfl, mg 16 (by decide +kernel) rfl, inRX4, mg 586 rfl rfl⟩, ⟨_, rfl, rfl⟩, ⟨by decide +kernel, by decide +kernel, by decide +kernel⟩, by decide⟩
set_option maxRecDepth 100000 in
theorem FX4_settle : MF yX4_settle cX4_settle 6 (some .int) 4 1 := ⟨⟨mg 581 (by decide +kernel) rfl, mg 15 (by decide +kernel) rfl, inRX4, mg 582 rfl rfl⟩, ⟨_, rfl, rfl⟩, ⟨by decide +kernel, by decide +kernel, by decide +kernel⟩, by decide⟩
set_option maxRecDepth 100000 in
theorem FX5_addJob : MF yX5_addJob cX5_addJob 3 (some .int) 5 2 := ⟨⟨mg 393 (by decide +kernel) rfl, mg 394 (by decide +kernel) rfl, inRX5, mg 395 rfl rfl⟩, ⟨_, rfl, rfl⟩, ⟨by decide +kernel, by decide +kernel, by decide +kernel⟩, by decide⟩
set_option maxRecDepth 100000 in
theorem FX5_addOperation : MF yX5_addOperation cX5_addOperation 5 (some .int) 5 3 := ⟨⟨mg 412 (by decide +kernel) rfl, mg 413 (by decide +kernel) rfl, inRX5, mg 414 rfl rfl⟩, ⟨_, rfl, rfl⟩, ⟨by decide +kernel, by decide +kernel, by decide +kernel⟩, by decide⟩
set_option maxRecDepth 100000 in
theorem FX5_allSteps : MF yX5_allSteps cX5_allSteps 3 (some .int) 5 0 := ⟨⟨mg 647 (by decide +kernel) rfl, mg 648 (by decide +kernel) rfl, inRX5, mg 649 rfl rfl⟩, ⟨_, rfl, rfl⟩, ⟨by decide +kernel, by decide +kernel, by decide +kernel⟩, by decide⟩
set_option maxRecDepth 100000 in
theorem FX5_allWork : MF yX5_allWork cX5_allWork 3 (some .int) 5 0 := ⟨⟨mg 651 (by decide +kernel) rfl, mg 652 (by decide +kernel) rfl, inRX5, mg 653 rfl rfl⟩, ⟨_, rfl, rfl⟩, ⟨by decide +kernel, by decide +kernel, by decide +kernel⟩, by decide⟩
set_option maxRecDepth 100000 in
theorem FX5_append : MF yX5_append cX5_append 3 none 5 2 := ⟨⟨mg 416 (by decide +kernel) rfl, mg 417 (by decide +kernel) rfl, inRX5, mg 418 rfl rfl⟩, ⟨_, rfl, rfl⟩, ⟨by decide +kernel, by decide +kernel, by decide +kernel⟩, by decide⟩
set_option maxRecDepth 100000 in
theorem FX5_become : MF yX5_become cX5_become 2 none 5 1 := ⟨⟨mg 382 (by decide +kernel) rfl, mg 383 (by decide +kernel) rfl, inRX5, mg 384 rfl rfl⟩, ⟨_, rfl, rfl⟩, ⟨by decide +kernel, by decide +kernel, by decide +kernel⟩, by decide⟩
set_option maxRecDepth 100000 in
theorem FX5_clear : MF yX5_clear cX5_clear 2 none 5 0 := ⟨⟨mg 738 (by decide +kernel) rfl, mg 739 (by decide +kernel) rfl, inRX5, mg 740 rfl rfl⟩, ⟨_, rfl, rfl⟩, ⟨by decide +kernel, by decide +kernel, by decide +kernel⟩, by decide⟩
set_option maxRecDepth 100000 in
theorem FX5_exchange : MF yX5_exchange cX5_exchange 5 none 5 2 := ⟨⟨mg 432 (by decide +kernel) rfl, mg 433 (by decide +kernel) rfl, inRX5, mg 434 rfl rfl⟩, ⟨_, rfl, rfl⟩, ⟨by decide +kernel, by decide +kernel, by decide +kernel⟩, by decide⟩
set_option maxRecDepth 100000 in
theorem FX5_hasJob : MF yX5_hasJob cX5_hasJob 2 (some .boolean) 5 1 := ⟨⟨mg 401 (by decide +kernel) rfl, mg 402 (by decide +kernel) rfl, inRX5, mg 403 rfl rfl⟩, ⟨_, rfl, rfl⟩, ⟨by decide +kernel, by decide +kernel, by decide +kernel⟩, by decide⟩
set_option maxRecDepth 100000 in
theorem FX5_hasOperation : MF yX5_hasOperation cX5_hasOperation 2 (some .boolean) 5 1 := ⟨⟨mg 424 (by decide +kernel) rfl, mg 425 (by decide +kernel) rfl, inRX5, mg 426 rfl rfl⟩, ⟨_, rfl, rfl⟩, ⟨by decide +kernel, by decide +kernel, by decide +kernel⟩, by decide⟩
set_option maxRecDepth 100000 in
theorem FX5_hasPlace : MF yX5_hasPlace cX5_hasPlace 3 (some .boolean) 5 2 := ⟨⟨mg 515 (by decide +kernel) rfl, mg 516 (by decide +kernel) rfl, inRX5, mg 517 rfl rfl⟩, ⟨_, rfl, rfl⟩, ⟨by decide +kernel, by decide +kernel, by decide +kernel⟩, by decide⟩
set_option maxRecDepth 100000 in
theorem FX5_jobsInOrder : MF yX5_jobsInOrder cX5_jobsInOrder 4 (some .int) 5 1 := ⟨⟨mg 777 (by decide +kernel) rfl, mg 778 (by decide +kernel) rfl, inRX5, mg 779 rfl rfl⟩, ⟨_, rfl, rfl⟩, ⟨by decide +kernel, by decide +kernel, by decide +kernel⟩, by decide⟩
set_option maxRecDepth 100000 in
theorem FX5_nextOnMachine : MF yX5_nextOnMachine cX5_nextOnMachine 3 (some .int) 5 1 := ⟨⟨mg 503 (by decide +kernel) rfl, mg 504 (by decide +kernel) rfl, inRX5, mg 505 rfl rfl⟩, ⟨_, rfl, rfl⟩, ⟨by decide +kernel, by decide +kernel, by decide +kernel⟩, by decide⟩
set_option maxRecDepth 100000 in
theorem FX5_operationAt : MF yX5_operationAt cX5_operationAt 3 (some .int) 5 2 := ⟨⟨mg 511 (by decide +kernel) rfl, mg 512 (by decide +kernel) rfl, inRX5, mg 513 rfl rfl⟩, ⟨_, rfl, rfl⟩, ⟨by decide +kernel, by decide +kernel, by decide +kernel⟩, by decide⟩
set_option maxRecDepth 100000 in
theorem FX5_operationOf : MF yX5_operationOf cX5_operationOf 4 (some .int) 5 2 := ⟨⟨mg 408 (by decide +kernel) rfl, mg 409 (by decide +kernel) rfl, inRX5, mg 410 rfl rfl⟩, ⟨_, rfl, rfl⟩, ⟨by decide +kernel, by decide +kernel, by decide +kernel⟩, by decide⟩
set_option maxRecDepth 100000 in
theorem FX5_placeOf : MF yX5_placeOf cX5_placeOf 4 (some .int) 5 1 := ⟨⟨mg 507 (by decide +kernel) rfl, mg 508 (by decide +kernel) rfl, inRX5, mg 509 rfl rfl⟩, ⟨_, rfl, rfl⟩, ⟨by decide +kernel, by decide +kernel, by decide +kernel⟩, by decide⟩
set_option maxRecDepth 100000 in
theorem FX5_takeOrder : MF yX5_takeOrder cX5_takeOrder 4 none 5 2 := ⟨⟨mg 797 (by decide +kernel) rfl, mg 798 (by decide +kernel) rfl, inRX5, mg 799 rfl rfl⟩, ⟨_, rfl, rfl⟩, ⟨by decide +kernel, by decide +kernel, by decide +kernel⟩, by decide⟩
set_option maxRecDepth 100000 in
theorem FX5_work : MF yX5_work cX5_work 4 (some .int) 5 1 := ⟨⟨mg 630 (by decide +kernel) rfl, mg 631 (by decide +kernel) rfl, inRX5, mg 632 rfl rfl⟩, ⟨_, rfl, rfl⟩, ⟨by decide +kernel, by decide +kernel, by decide +kernel⟩, by decide⟩
set_option maxRecDepth 100000 in
theorem FX6_about : MF yX6_about cX6_about 3 (some .int) 6 2 := ⟨⟨mg 604 (by decide +kernel) rfl, mg 605 (by decide +kernel) rfl, inRX6, mg 606 rfl rfl⟩, ⟨_, rfl, rfl⟩, ⟨by decide +kernel, by decide +kernel, by decide +kernel⟩, by decide⟩
set_option maxRecDepth 100000 in
theorem FX6_best : MF yX6_best cX6_best 3 (some .int) 6 2 := ⟨⟨mg 692 (by decide +kernel) rfl, mg 693 (by decide +kernel) rfl, inRX6, mg 694 rfl rfl⟩, ⟨_, rfl, rfl⟩, ⟨by decide +kernel, by decide +kernel, by decide +kernel⟩, by decide⟩
set_option maxRecDepth 100000 in
theorem FX6_bound : MF yX6_bound cX6_bound 2 (some .int) 6 1 := ⟨⟨mg 672 (by decide +kernel) rfl, mg 673 (by decide +kernel) rfl, inRX6, mg 674 rfl rfl⟩, ⟨_, rfl, rfl⟩, ⟨by decide +kernel, by decide +kernel, by decide +kernel⟩, by decide⟩
set_option maxRecDepth 100000 in
theorem FX6_breakdown : MF yX6_breakdown cX6_breakdown 5 (some .int) 6 4 := ⟨⟨mg 696 (by decide +kernel) rfl, mg 697 (by decide +kernel) rfl, inRX6, mg 698 rfl rfl⟩, ⟨_, rfl, rfl⟩, ⟨by decide +kernel, by decide +kernel, by decide +kernel⟩, by decide⟩
set_option maxRecDepth 100000 in
theorem FX6_change : MF yX6_change cX6_change 4 (some .int) 6 2 := ⟨⟨mg 420 (by decide +kernel) rfl, mg 421 (by decide +kernel) rfl, inRX6, mg 422 rfl rfl⟩, ⟨_, rfl, rfl⟩, ⟨by decide +kernel, by decide +kernel, by decide +kernel⟩, by decide⟩
set_option maxRecDepth 100000 in
theorem FX6_copyRow : SF yX6_copyRow cX6_copyRow 3 none 2 := ⟨⟨mg 386 (by decide +kernel) rfl, inRX6, mg 387 rfl rfl⟩, ⟨by decide +kernel, by decide +kernel, by decide +kernel⟩, by decide⟩
set_option maxRecDepth 100000 in
theorem FX6_count : MF yX6_count cX6_count 2 (some .int) 6 1 := ⟨⟨mg 643 (by decide +kernel) rfl, mg 644 (by decide +kernel) rfl, inRX6, mg 645 rfl rfl⟩, ⟨_, rfl, rfl⟩, ⟨by decide +kernel, by decide +kernel, by decide +kernel⟩, by decide⟩
set_option maxRecDepth 100000 in
theorem FX6_endOfJob : MF yX6_endOfJob cX6_endOfJob 3 (some .int) 6 1 := ⟨⟨mg 635 (by decide +kernel) rfl, mg 19 (by decide +kernel) rfl, inRX6, mg 636 rfl rfl⟩, ⟨_, rfl, rfl⟩, ⟨by decide +kernel, by decide +kernel, by decide +kernel⟩, by decide⟩
set_option maxRecDepth 100000 in
theorem FX6_fault : MF yX6_fault cX6_fault 2 (some .int) 6 1 := ⟨⟨mg 730 (by decide +kernel) rfl, mg 731 (by decide +kernel) rfl, inRX6, mg 732 rfl rfl⟩, ⟨_, rfl, rfl⟩, ⟨by decide +kernel, by decide +kernel, by decide +kernel⟩, by decide⟩
set_option maxRecDepth 100000 in
theorem FX6_forced : MF yX6_forced cX6_forced 2 (some .int) 6 1 := ⟨⟨mg 678 (by decide +kernel) rfl, mg 679 (by decide +kernel) rfl, inRX6, mg 680 rfl rfl⟩, ⟨_, rfl, rfl⟩, ⟨by decide +kernel, by decide +kernel, by decide +kernel⟩, by decide⟩
set_option maxRecDepth 100000 in
theorem FX6_forgetAnswers : MF yX6_forgetAnswers cX6_forgetAnswers 1 none 6 0 := ⟨⟨mg 390 (by decide +kernel) rfl, mg 1 (by decide +kernel) rfl, inRX6, mg 391 rfl rfl⟩, ⟨_, rfl, rfl⟩, ⟨by decide +kernel, by decide +kernel, by decide +kernel⟩, by decide⟩
set_option maxRecDepth 100000 in
theorem FX6_greatestLateness : MF yX6_greatestLateness cX6_greatestLateness 4 (some .int) 6 0 := ⟨⟨mg 669 (by decide +kernel) rfl, mg 23 (by decide +kernel) rfl, inRX6, mg 670 rfl rfl⟩, ⟨_, rfl, rfl⟩, ⟨by decide +kernel, by decide +kernel, by decide +kernel⟩, by decide⟩
set_option maxRecDepth 100000 in
theorem FX6_improve : MF yX6_improve cX6_improve 6 (some .int) 6 0 := ⟨⟨mg 591 (by decide +kernel) rfl, mg 592 (by decide +kernel) rfl, inRX6, mg 593 rfl rfl⟩, ⟨_, rfl, rfl⟩, ⟨by decide +kernel, by decide +kernel, by decide +kernel⟩, by decide⟩
set_option maxRecDepth 100000 in
theorem FX6_isForced : MF yX6_isForced cX6_isForced 4 (some .int) 6 3 := ⟨⟨mg 687 (by decide +kernel) rfl, mg 688 (by decide +kernel) rfl, inRX6, mg 689 rfl rfl⟩, ⟨_, rfl, rfl⟩, ⟨by decide +kernel, by decide +kernel, by decide +kernel⟩, by decide⟩
set_option maxRecDepth 100000 in
theorem FX6_isMachine : SF yX6_isMachine cX6_isMachine 1 (some .boolean) 1 := ⟨⟨mg 405 (by decide +kernel) rfl, inRX6, mg 406 rfl rfl⟩, ⟨by decide +kernel, by decide +kernel, by decide +kernel⟩, by decide⟩
set_option maxRecDepth 100000 in
theorem FX6_job : MF yX6_job cX6_job 3 (some .int) 6 2 := ⟨⟨mg 367 (by decide +kernel) rfl, mg 368 (by decide +kernel) rfl, inRX6, mg 369 rfl rfl⟩, ⟨_, rfl, rfl⟩, ⟨by decide +kernel, by decide +kernel, by decide +kernel⟩, by decide⟩
set_option maxRecDepth 100000 in
theorem FX6_knowPlan : MF yX6_knowPlan cX6_knowPlan 1 (some .boolean) 6 0 := ⟨⟨mg 437 (by decide +kernel) rfl, mg 2 (by decide +kernel) rfl, inRX6, mg 438 rfl rfl⟩, ⟨_, rfl, rfl⟩, ⟨by decide +kernel, by decide +kernel, by decide +kernel⟩, by decide⟩
set_option maxRecDepth 100000 in
theorem FX6_lateness : MF yX6_lateness cX6_lateness 3 (some .int) 6 1 := ⟨⟨mg 640 (by decide +kernel) rfl, mg 20 (by decide +kernel) rfl, inRX6, mg 641 rfl rfl⟩, ⟨_, rfl, rfl⟩, ⟨by decide +kernel, by decide +kernel, by decide +kernel⟩, by decide⟩
set_option maxRecDepth 100000 in
theorem FX6_length : MF yX6_length cX6_length 1 (some .int) 6 0 := ⟨⟨mg 600 (by decide +kernel) rfl, mg 601 (by decide +kernel) rfl, inRX6, mg 602 rfl rfl⟩, ⟨_, rfl, rfl⟩, ⟨by decide +kernel, by decide +kernel, by decide +kernel⟩, by decide⟩
set_option maxRecDepth 100000 in
theorem FX6_lengthBehindNext : MF yX6_lengthBehindNext cX6_lengthBehindNext 5 (some .int) 6 1 := ⟨⟨mg 596 (by decide +kernel) rfl, mg 17 (by decide +kernel) rfl, inRX6, mg 597 rfl rfl⟩, ⟨_, rfl, rfl⟩, ⟨by decide +kernel, by decide +kernel, by decide +kernel⟩, by decide⟩
set_option maxRecDepth 100000 in
theorem FX6_loadPlan : MF yX6_loadPlan cX6_loadPlan 2 (some .int) 6 0 := ⟨⟨mg 791 (by decide +kernel) rfl, mg 792 (by decide +kernel) rfl, inRX6, mg 793 rfl rfl⟩, ⟨_, rfl, rfl⟩, ⟨by decide +kernel, by decide +kernel, by decide +kernel⟩, by decide⟩
set_option maxRecDepth 100000 in
theorem FX6_loadRoutes : MF yX6_loadRoutes cX6_loadRoutes 1 (some .int) 6 0 := ⟨⟨mg 786 (by decide +kernel) rfl, mg 787 (by decide +kernel) rfl, inRX6, mg 788 rfl rfl⟩, ⟨_, rfl, rfl⟩, ⟨by decide +kernel, by decide +kernel, by decide +kernel⟩, by decide⟩
set_option maxRecDepth 100000 in
theorem FX6_numberOfPlan : MF yX6_numberOfPlan cX6_numberOfPlan 2 (some .int) 6 1 := ⟨⟨mg 657 (by decide +kernel) rfl, mg 21 (by decide +kernel) rfl, inRX6, mg 658 rfl rfl⟩, ⟨_, rfl, rfl⟩, ⟨by decide +kernel, by decide +kernel, by decide +kernel⟩, by decide⟩
set_option maxRecDepth 100000 in
theorem FX6_ofJob : MF yX6_ofJob cX6_ofJob 3 (some .int) 6 2 := ⟨⟨mg 626 (by decide +kernel) rfl, mg 627 (by decide +kernel) rfl, inRX6, mg 628 rfl rfl⟩, ⟨_, rfl, rfl⟩, ⟨by decide +kernel, by decide +kernel, by decide +kernel⟩, by decide⟩
set_option maxRecDepth 100000 in
theorem FX6_operation : MF yX6_operation cX6_operation 4 (some .int) 6 3 := ⟨⟨mg 397 (by decide +kernel) rfl, mg 398 (by decide +kernel) rfl, inRX6, mg 399 rfl rfl⟩, ⟨_, rfl, rfl⟩, ⟨by decide +kernel, by decide +kernel, by decide +kernel⟩, by decide⟩
set_option maxRecDepth 100000 in
theorem FX6_order : MF yX6_order cX6_order 3 (some .int) 6 2 := ⟨⟨mg 621 (by decide +kernel) rfl, mg 622 (by decide +kernel) rfl, inRX6, mg 623 rfl rfl⟩, ⟨_, rfl, rfl⟩, ⟨by decide +kernel, by decide +kernel, by decide +kernel⟩, by decide⟩
set_option maxRecDepth 100000 in
theorem FX6_path : MF yX6_path cX6_path 2 (some .int) 6 1 := ⟨⟨mg 617 (by decide +kernel) rfl, mg 618 (by decide +kernel) rfl, inRX6, mg 619 rfl rfl⟩, ⟨_, rfl, rfl⟩, ⟨by decide +kernel, by decide +kernel, by decide +kernel⟩, by decide⟩
set_option maxRecDepth 100000 in
theorem FX6_put : MF yX6_put cX6_put 5 (some .int) 6 1 := ⟨⟨mg 714 (by decide +kernel) rfl, mg 715 (by decide +kernel) rfl, inRX6, mg 716 rfl rfl⟩, ⟨_, rfl, rfl⟩, ⟨by decide +kernel, by decide +kernel, by decide +kernel⟩, by decide⟩
set_option maxRecDepth 100000 in
theorem FX6_record : MF yX6_record cX6_record 1 none 6 0 := ⟨⟨mg 375 (by decide +kernel) rfl, mg 0 (by decide +kernel) rfl, inRX6, mg 376 rfl rfl⟩, ⟨_, rfl, rfl⟩, ⟨by decide +kernel, by decide +kernel, by decide +kernel⟩, by decide⟩
set_option maxRecDepth 100000 in
theorem FX6_restore : MF yX6_restore cX6_restore 2 (some .int) 6 1 := ⟨⟨mg 813 (by decide +kernel) rfl, mg 814 (by decide +kernel) rfl, inRX6, mg 815 rfl rfl⟩, ⟨_, rfl, rfl⟩, ⟨by decide +kernel, by decide +kernel, by decide +kernel⟩, by decide⟩
set_option maxRecDepth 100000 in
theorem FX6_save : MF yX6_save cX6_save 2 (some .int) 6 1 := ⟨⟨mg 809 (by decide +kernel) rfl, mg 810 (by decide +kernel) rfl, inRX6, mg 811 rfl rfl⟩, ⟨_, rfl, rfl⟩, ⟨by decide +kernel, by decide +kernel, by decide +kernel⟩, by decide⟩
set_option maxRecDepth 100000 in
theorem FX6_signsIn : SF yX6_signsIn cX6_signsIn 6 (some .int) 1 := ⟨⟨mg 718 (by decide +kernel) rfl, inRX6, mg 719 rfl rfl⟩, ⟨by decide +kernel, by decide +kernel, by decide +kernel⟩, by decide⟩
set_option maxRecDepth 100000 in
theorem FX6_stays : MF yX6_stays cX6_stays 4 (some .boolean) 6 3 := ⟨⟨mg 706 (by decide +kernel) rfl, mg 25 (by decide +kernel) rfl, inRX6, mg 707 rfl rfl⟩, ⟨_, rfl, rfl⟩, ⟨by decide +kernel, by decide +kernel, by decide +kernel⟩, by decide⟩
set_option maxRecDepth 100000 in
theorem FX6_sumOfLateness : MF yX6_sumOfLateness cX6_sumOfLateness 3 (some .int) 6 0 := ⟨⟨mg 665 (by decide +kernel) rfl, mg 22 (by decide +kernel) rfl, inRX6, mg 666 rfl rfl⟩, ⟨_, rfl, rfl⟩, ⟨by decide +kernel, by decide +kernel, by decide +kernel⟩, by decide⟩
set_option maxRecDepth 100000 in
theorem FX6_swap : MF yX6_swap cX6_swap 3 (some .int) 6 2 := ⟨⟨mg 428 (by decide +kernel) rfl, mg 429 (by decide +kernel) rfl, inRX6, mg 430 rfl rfl⟩, ⟨_, rfl, rfl⟩, ⟨by decide +kernel, by decide +kernel, by decide +kernel⟩, by decide⟩
set_option maxRecDepth 100000 in
theorem FX6_takeBest : MF yX6_takeBest cX6_takeBest 1 (some .int) 6 0 := ⟨⟨mg 520 (by decide +kernel) rfl, mg 521 (by decide +kernel) rfl, inRX6, mg 522 rfl rfl⟩, ⟨_, rfl, rfl⟩, ⟨by decide +kernel, by decide +kernel, by decide +kernel⟩, by decide⟩
set_option maxRecDepth 100000 in
theorem FX6_takeBreakdown : MF yX6_takeBreakdown cX6_takeBreakdown 8 none 6 3 := ⟨⟨mg 701 (by decide +kernel) rfl, mg 24 (by decide +kernel) rfl, inRX6, mg 702 rfl rfl⟩, ⟨_, rfl, rfl⟩, ⟨by decide +kernel, by decide +kernel, by decide +kernel⟩, by decide⟩
set_option maxRecDepth 100000 in
theorem FX6_timeAbout : MF yX6_timeAbout cX6_timeAbout 3 (some .int) 6 2 := ⟨⟨mg 609 (by decide +kernel) rfl, mg 18 (by decide +kernel) rfl, inRX6, mg 610 rfl rfl⟩, ⟨_, rfl, rfl⟩, ⟨by decide +kernel, by decide +kernel, by decide +kernel⟩, by decide⟩
set_option maxRecDepth 100000 in
theorem FX6_undo : MF yX6_undo cX6_undo 1 (some .int) 6 0 := ⟨⟨mg 801 (by decide +kernel) rfl, mg 802 (by decide +kernel) rfl, inRX6, mg 803 rfl rfl⟩, ⟨_, rfl, rfl⟩, ⟨by decide +kernel, by decide +kernel, by decide +kernel⟩, by decide⟩
set_option maxRecDepth 100000 in
theorem FX6_wipe : MF yX6_wipe cX6_wipe 2 (some .int) 6 0 := ⟨⟨mg 726 (by decide +kernel) rfl, mg 727 (by decide +kernel) rfl, inRX6, mg 728 rfl rfl⟩, ⟨_, rfl, rfl⟩, ⟨by decide +kernel, by decide +kernel, by decide +kernel⟩, by decide⟩
set_option maxRecDepth 100000 in
theorem FX6_within : SF yX6_within cX6_within 3 (some .boolean) 3 := ⟨⟨mg 371 (by decide +kernel) rfl, inRX6, mg 372 rfl rfl⟩, ⟨by decide +kernel, by decide +kernel, by decide +kernel⟩, by decide⟩
set_option maxRecDepth 100000 in
theorem FX7_about : MF yX7_about cX7_about 3 (some .int) 7 2 := ⟨⟨mg 1090 (by decide +kernel) rfl, mg 1091 (by decide +kernel) rfl, inRX7, mg 1092 rfl rfl⟩, ⟨_, rfl, rfl⟩, ⟨by decide +kernel, by decide +kernel, by decide +kernel⟩, by decide⟩
set_option maxRecDepth 100000 in
theorem FX7_addJob : MF yX7_addJob cX7_addJob 4 none 7 2 := ⟨⟨mg 911 (by decide +kernel) rfl, mg 34 (by decide +kernel) rfl, inRX7, mg 912 rfl rfl⟩, ⟨_, rfl, rfl⟩, ⟨by decide +kernel, by decide +kernel, by decide +kernel⟩, by decide⟩
set_option maxRecDepth 100000 in
theorem FX7_addOperation : MF yX7_addOperation cX7_addOperation 5 (some .int) 7 3 := ⟨⟨mg 935 (by decide +kernel) rfl, mg 39 (by decide +kernel) rfl, inRX7, mg 936 rfl rfl⟩, ⟨_, rfl, rfl⟩, ⟨by decide +kernel, by decide +kernel, by decide +kernel⟩, by decide⟩
set_option maxRecDepth 100000 in
theorem FX7_areTwo : MF yX7_areTwo cX7_areTwo 3 (some .boolean) 7 2 := ⟨⟨mg 1183 (by decide +kernel) rfl, mg 86 (by decide +kernel) rfl, inRX7, mg 1184 rfl rfl⟩, ⟨_, rfl, rfl⟩, ⟨by decide +kernel, by decide +kernel, by decide +kernel⟩, by decide⟩
set_option maxRecDepth 100000 in
theorem FX7_beforeOnRoute : MF yX7_beforeOnRoute cX7_beforeOnRoute 2 (some .int) 7 1 := ⟨⟨mg 982 (by decide +kernel) rfl, mg 48 (by decide +kernel) rfl, inRX7, mg 983 rfl rfl⟩, ⟨_, rfl, rfl⟩, ⟨by decide +kernel, by decide +kernel, by decide +kernel⟩, by decide⟩
set_option maxRecDepth 100000 in
theorem FX7_behindOnRoute : MF yX7_behindOnRoute cX7_behindOnRoute 2 (some .int) 7 1 := ⟨⟨mg 994 (by decide +kernel) rfl, mg 51 (by decide +kernel) rfl, inRX7, mg 995 rfl rfl⟩, ⟨_, rfl, rfl⟩, ⟨by decide +kernel, by decide +kernel, by decide +kernel⟩, by decide⟩
set_option maxRecDepth 100000 in
theorem FX7_best : MF yX7_best cX7_best 4 (some .int) 7 2 := ⟨⟨mg 1074 (by decide +kernel) rfl, mg 1075 (by decide +kernel) rfl, inRX7, mg 1076 rfl rfl⟩, ⟨_, rfl, rfl⟩, ⟨by decide +kernel, by decide +kernel, by decide +kernel⟩, by decide⟩
set_option maxRecDepth 100000 in
theorem FX7_blocks : MF yX7_blocks cX7_blocks 3 (some .int) 7 0 := ⟨⟨mg 1131 (by decide +kernel) rfl, mg 75 (by decide +kernel) rfl, inRX7, mg 1132 rfl rfl⟩, ⟨_, rfl, rfl⟩, ⟨by decide +kernel, by decide +kernel, by decide +kernel⟩, by decide⟩
set_option maxRecDepth 100000 in
theorem FX7_bound : MF yX7_bound cX7_bound 4 (some .int) 7 1 := ⟨⟨mg 1138 (by decide +kernel) rfl, mg 1139 (by decide +kernel) rfl, inRX7, mg 1140 rfl rfl⟩, ⟨_, rfl, rfl⟩, ⟨by decide +kernel, by decide +kernel, by decide +kernel⟩, by decide⟩
set_option maxRecDepth 100000 in
theorem FX7_boundOf : MF yX7_boundOf cX7_boundOf 6 (some .int) 7 1 := ⟨⟨mg 1143 (by decide +kernel) rfl, mg 77 (by decide +kernel) rfl, inRX7, mg 1144 rfl rfl⟩, ⟨_, rfl, rfl⟩, ⟨by decide +kernel, by decide +kernel, by decide +kernel⟩, by decide⟩
set_option maxRecDepth 100000 in
theorem FX7_breakdown : MF yX7_breakdown cX7_breakdown 7 (some .int) 7 4 := ⟨⟨mg 1082 (by decide +kernel) rfl, mg 1083 (by decide +kernel) rfl, inRX7, mg 1084 rfl rfl⟩, ⟨_, rfl, rfl⟩, ⟨by decide +kernel, by decide +kernel, by decide +kernel⟩, by decide⟩
set_option maxRecDepth 100000 in
theorem FX7_change : MF yX7_change cX7_change 4 (some .int) 7 2 := ⟨⟨mg 938 (by decide +kernel) rfl, mg 939 (by decide +kernel) rfl, inRX7, mg 940 rfl rfl⟩, ⟨_, rfl, rfl⟩, ⟨by decide +kernel, by decide +kernel, by decide +kernel⟩, by decide⟩
set_option maxRecDepth 100000 in
theorem FX7_count : MF yX7_count cX7_count 2 (some .int) 7 1 := ⟨⟨mg 1122 (by decide +kernel) rfl, mg 1123 (by decide +kernel) rfl, inRX7, mg 1124 rfl rfl⟩, ⟨_, rfl, rfl⟩, ⟨by decide +kernel, by decide +kernel, by decide +kernel⟩, by decide⟩
set_option maxRecDepth 100000 in
theorem FX7_endOf : MF yX7_endOf cX7_endOf 2 (some .int) 7 1 := ⟨⟨mg 986 (by decide +kernel) rfl, mg 49 (by decide +kernel) rfl, inRX7, mg 987 rfl rfl⟩, ⟨_, rfl, rfl⟩, ⟨by decide +kernel, by decide +kernel, by decide +kernel⟩, by decide⟩
set_option maxRecDepth 100000 in
theorem FX7_endOfJob : MF yX7_endOfJob cX7_endOfJob 3 (some .int) 7 1 := ⟨⟨mg 1115 (by decide +kernel) rfl, mg 72 (by decide +kernel) rfl, inRX7, mg 1116 rfl rfl⟩, ⟨_, rfl, rfl⟩, ⟨by decide +kernel, by decide +kernel, by decide +kernel⟩, by decide⟩
set_option maxRecDepth 100000 in
theorem FX7_exchange : MF yX7_exchange cX7_exchange 5 none 7 2 := ⟨⟨mg 1010 (by decide +kernel) rfl, mg 54 (by decide +kernel) rfl, inRX7, mg 1011 rfl rfl⟩, ⟨_, rfl, rfl⟩, ⟨by decide +kernel, by decide +kernel, by decide +kernel⟩, by decide⟩
set_option maxRecDepth 100000 in
theorem FX7_fault : MF yX7_fault cX7_fault 2 (some .int) 7 1 := ⟨⟨mg 1203 (by decide +kernel) rfl, mg 1204 (by decide +kernel) rfl, inRX7, mg 1205 rfl rfl⟩, ⟨_, rfl, rfl⟩, ⟨by decide +kernel, by decide +kernel, by decide +kernel⟩, by decide⟩
set_option maxRecDepth 100000 in
theorem FX7_faultOf : MF yX7_faultOf cX7_faultOf 2 (some .int) 7 1 := ⟨⟨mg 1208 (by decide +kernel) rfl, mg 88 (by decide +kernel) rfl, inRX7, mg 1209 rfl rfl⟩, ⟨_, rfl, rfl⟩, ⟨by decide +kernel, by decide +kernel, by decide +kernel⟩, by decide⟩
set_option maxRecDepth 100000 in
theorem FX7_find : MF yX7_find cX7_find 1 (some .boolean) 7 0 := ⟨⟨mg 955 (by decide +kernel) rfl, mg 42 (by decide +kernel) rfl, inRX7, mg 956 rfl rfl⟩, ⟨_, rfl, rfl⟩, ⟨by decide +kernel, by decide +kernel, by decide +kernel⟩, by decide⟩
set_option maxRecDepth 100000 in
theorem FX7_findBest : MF yX7_findBest cX7_findBest 2 (some .int) 7 0 := ⟨⟨mg 1042 (by decide +kernel) rfl, mg 60 (by decide +kernel) rfl, inRX7, mg 1043 rfl rfl⟩, ⟨_, rfl, rfl⟩, ⟨by decide +kernel, by decide +kernel, by decide +kernel⟩, by decide⟩
set_option maxRecDepth 100000 in
theorem FX7_findCritical : MF yX7_findCritical cX7_findCritical 4 none 7 0 := ⟨⟨mg 1018 (by decide +kernel) rfl, mg 55 (by decide +kernel) rfl, inRX7, mg 1019 rfl rfl⟩, ⟨_, rfl, rfl⟩, ⟨by decide +kernel, by decide +kernel, by decide +kernel⟩, by decide⟩
set_option maxRecDepth 100000 in
theorem FX7_findForced : MF yX7_findForced cX7_findForced 6 (some .boolean) 7 0 := ⟨⟨mg 1167 (by decide +kernel) rfl, mg 82 (by decide +kernel) rfl, inRX7, mg 1168 rfl rfl⟩, ⟨_, rfl, rfl⟩, ⟨by decide +kernel, by decide +kernel, by decide +kernel⟩, by decide⟩
set_option maxRecDepth 100000 in
theorem FX7_findHeads : MF yX7_findHeads cX7_findHeads 6 (some .boolean) 7 1 := ⟨⟨mg 963 (by decide +kernel) rfl, mg 44 (by decide +kernel) rfl, inRX7, mg 964 rfl rfl⟩, ⟨_, rfl, rfl⟩, ⟨by decide +kernel, by decide +kernel, by decide +kernel⟩, by decide⟩
set_option maxRecDepth 100000 in
theorem FX7_findTails : MF yX7_findTails cX7_findTails 6 none 7 0 := ⟨⟨mg 990 (by decide +kernel) rfl, mg 50 (by decide +kernel) rfl, inRX7, mg 991 rfl rfl⟩, ⟨_, rfl, rfl⟩, ⟨by decide +kernel, by decide +kernel, by decide +kernel⟩, by decide⟩
set_option maxRecDepth 100000 in
theorem FX7_fitsOrder : MF yX7_fitsOrder cX7_fitsOrder 6 (some .boolean) 7 1 := ⟨⟨mg 1248 (by decide +kernel) rfl, mg 96 (by decide +kernel) rfl, inRX7, mg 1249 rfl rfl⟩, ⟨_, rfl, rfl⟩, ⟨by decide +kernel, by decide +kernel, by decide +kernel⟩, by decide⟩
set_option maxRecDepth 100000 in
theorem FX7_force : MF yX7_force cX7_force 5 (some .boolean) 7 1 := ⟨⟨mg 1163 (by decide +kernel) rfl, mg 81 (by decide +kernel) rfl, inRX7, mg 1164 rfl rfl⟩, ⟨_, rfl, rfl⟩, ⟨by decide +kernel, by decide +kernel, by decide +kernel⟩, by decide⟩
set_option maxRecDepth 100000 in
theorem FX7_forced : MF yX7_forced cX7_forced 5 (some .int) 7 1 := ⟨⟨mg 1158 (by decide +kernel) rfl, mg 1159 (by decide +kernel) rfl, inRX7, mg 1160 rfl rfl⟩, ⟨_, rfl, rfl⟩, ⟨by decide +kernel, by decide +kernel, by decide +kernel⟩, by decide⟩
set_option maxRecDepth 100000 in
theorem FX7_foundAt : MF yX7_foundAt cX7_foundAt 3 (some .int) 7 2 := ⟨⟨mg 1079 (by decide +kernel) rfl, mg 68 (by decide +kernel) rfl, inRX7, mg 1080 rfl rfl⟩, ⟨_, rfl, rfl⟩, ⟨by decide +kernel, by decide +kernel, by decide +kernel⟩, by decide⟩
set_option maxRecDepth 100000 in
theorem FX7_goesOn : MF yX7_goesOn cX7_goesOn 3 (some .boolean) 7 2 := ⟨⟨mg 1034 (by decide +kernel) rfl, mg 59 (by decide +kernel) rfl, inRX7, mg 1035 rfl rfl⟩, ⟨_, rfl, rfl⟩, ⟨by decide +kernel, by decide +kernel, by decide +kernel⟩, by decide⟩
set_option maxRecDepth 100000 in
theorem FX7_greater : SF yX7_greater cX7_greater 2 (some .int) 2 := ⟨⟨mg 978 (by decide +kernel) rfl, inRX7, mg 979 rfl rfl⟩, ⟨by decide +kernel, by decide +kernel, by decide +kernel⟩, by decide⟩
set_option maxRecDepth 100000 in
theorem FX7_headAlone : MF yX7_headAlone cX7_headAlone 4 (some .int) 7 1 := ⟨⟨mg 1151 (by decide +kernel) rfl, mg 79 (by decide +kernel) rfl, inRX7, mg 1152 rfl rfl⟩, ⟨_, rfl, rfl⟩, ⟨by decide +kernel, by decide +kernel, by decide +kernel⟩, by decide⟩
set_option maxRecDepth 100000 in
theorem FX7_headBy : MF yX7_headBy cX7_headBy 4 (some .int) 7 1 := ⟨⟨mg 1171 (by decide +kernel) rfl, mg 83 (by decide +kernel) rfl, inRX7, mg 1172 rfl rfl⟩, ⟨_, rfl, rfl⟩, ⟨by decide +kernel, by decide +kernel, by decide +kernel⟩, by decide⟩
set_option maxRecDepth 100000 in
theorem FX7_improve : MF yX7_improve cX7_improve 6 (some .int) 7 0 := ⟨⟨mg 1013 (by decide +kernel) rfl, mg 1014 (by decide +kernel) rfl, inRX7, mg 1015 rfl rfl⟩, ⟨_, rfl, rfl⟩, ⟨by decide +kernel, by decide +kernel, by decide +kernel⟩, by decide⟩
set_option maxRecDepth 100000 in
theorem FX7_in : SF yX7_in cX7_in 3 (some .boolean) 3 := ⟨⟨mg 903 (by decide +kernel) rfl, inRX7, mg 904 rfl rfl⟩, ⟨by decide +kernel, by decide +kernel, by decide +kernel⟩, by decide⟩
set_option maxRecDepth 100000 in
theorem FX7_isCritical : MF yX7_isCritical cX7_isCritical 2 (some .boolean) 7 1 := ⟨⟨mg 1022 (by decide +kernel) rfl, mg 56 (by decide +kernel) rfl, inRX7, mg 1023 rfl rfl⟩, ⟨_, rfl, rfl⟩, ⟨by decide +kernel, by decide +kernel, by decide +kernel⟩, by decide⟩
set_option maxRecDepth 100000 in
theorem FX7_isForced : MF yX7_isForced cX7_isForced 4 (some .int) 7 3 := ⟨⟨mg 1190 (by decide +kernel) rfl, mg 1191 (by decide +kernel) rfl, inRX7, mg 1192 rfl rfl⟩, ⟨_, rfl, rfl⟩, ⟨by decide +kernel, by decide +kernel, by decide +kernel⟩, by decide⟩
set_option maxRecDepth 100000 in
theorem FX7_isForcedBoth : MF yX7_isForcedBoth cX7_isForcedBoth 4 (some .boolean) 7 0 := ⟨⟨mg 1187 (by decide +kernel) rfl, mg 87 (by decide +kernel) rfl, inRX7, mg 1188 rfl rfl⟩, ⟨_, rfl, rfl⟩, ⟨by decide +kernel, by decide +kernel, by decide +kernel⟩, by decide⟩
set_option maxRecDepth 100000 in
theorem FX7_isJob : MF yX7_isJob cX7_isJob 2 (some .boolean) 7 1 := ⟨⟨mg 919 (by decide +kernel) rfl, mg 35 (by decide +kernel) rfl, inRX7, mg 920 rfl rfl⟩, ⟨_, rfl, rfl⟩, ⟨by decide +kernel, by decide +kernel, by decide +kernel⟩, by decide⟩
set_option maxRecDepth 100000 in
theorem FX7_isOperation : MF yX7_isOperation cX7_isOperation 2 (some .boolean) 7 1 := ⟨⟨mg 943 (by decide +kernel) rfl, mg 40 (by decide +kernel) rfl, inRX7, mg 944 rfl rfl⟩, ⟨_, rfl, rfl⟩, ⟨by decide +kernel, by decide +kernel, by decide +kernel⟩, by decide⟩
set_option maxRecDepth 100000 in
theorem FX7_isSet : MF yX7_isSet cX7_isSet 3 (some .boolean) 7 2 := ⟨⟨mg 1175 (by decide +kernel) rfl, mg 84 (by decide +kernel) rfl, inRX7, mg 1176 rfl rfl⟩, ⟨_, rfl, rfl⟩, ⟨by decide +kernel, by decide +kernel, by decide +kernel⟩, by decide⟩
set_option maxRecDepth 100000 in
theorem FX7_job : MF yX7_job cX7_job 3 (some .int) 7 2 := ⟨⟨mg 899 (by decide +kernel) rfl, mg 900 (by decide +kernel) rfl, inRX7, mg 901 rfl rfl⟩, ⟨_, rfl, rfl⟩, ⟨by decide +kernel, by decide +kernel, by decide +kernel⟩, by decide⟩
set_option maxRecDepth 100000 in
theorem FX7_jobAt : MF yX7_jobAt cX7_jobAt 3 (some .int) 7 2 := ⟨⟨mg 971 (by decide +kernel) rfl, mg 46 (by decide +kernel) rfl, inRX7, mg 972 rfl rfl⟩, ⟨_, rfl, rfl⟩, ⟨by decide +kernel, by decide +kernel, by decide +kernel⟩, by decide⟩
set_option maxRecDepth 100000 in
theorem FX7_keep : MF yX7_keep cX7_keep 2 none 7 0 := ⟨⟨mg 907 (by decide +kernel) rfl, mg 33 (by decide +kernel) rfl, inRX7, mg 908 rfl rfl⟩, ⟨_, rfl, rfl⟩, ⟨by decide +kernel, by decide +kernel, by decide +kernel⟩, by decide⟩
set_option maxRecDepth 100000 in
theorem FX7_keepFound : MF yX7_keepFound cX7_keepFound 2 none 7 0 := ⟨⟨mg 1067 (by decide +kernel) rfl, mg 66 (by decide +kernel) rfl, inRX7, mg 1068 rfl rfl⟩, ⟨_, rfl, rfl⟩, ⟨by decide +kernel, by decide +kernel, by decide +kernel⟩, by decide⟩
set_option maxRecDepth 100000 in
theorem FX7_keepOrders : MF yX7_keepOrders cX7_keepOrders 2 none 7 0 := ⟨⟨mg 1046 (by decide +kernel) rfl, mg 61 (by decide +kernel) rfl, inRX7, mg 1047 rfl rfl⟩, ⟨_, rfl, rfl⟩, ⟨by decide +kernel, by decide +kernel, by decide +kernel⟩, by decide⟩
set_option maxRecDepth 100000 in
theorem FX7_lastEnd : MF yX7_lastEnd cX7_lastEnd 3 (some .int) 7 0 := ⟨⟨mg 1002 (by decide +kernel) rfl, mg 53 (by decide +kernel) rfl, inRX7, mg 1003 rfl rfl⟩, ⟨_, rfl, rfl⟩, ⟨by decide +kernel, by decide +kernel, by decide +kernel⟩, by decide⟩
set_option maxRecDepth 100000 in
theorem FX7_lasts : MF yX7_lasts cX7_lasts 2 (some .int) 7 1 := ⟨⟨mg 947 (by decide +kernel) rfl, mg 41 (by decide +kernel) rfl, inRX7, mg 948 rfl rfl⟩, ⟨_, rfl, rfl⟩, ⟨by decide +kernel, by decide +kernel, by decide +kernel⟩, by decide⟩
set_option maxRecDepth 100000 in
theorem FX7_lateness : MF yX7_lateness cX7_lateness 2 (some .int) 7 1 := ⟨⟨mg 1119 (by decide +kernel) rfl, mg 73 (by decide +kernel) rfl, inRX7, mg 1120 rfl rfl⟩, ⟨_, rfl, rfl⟩, ⟨by decide +kernel, by decide +kernel, by decide +kernel⟩, by decide⟩
set_option maxRecDepth 100000 in
theorem FX7_layPlans : MF yX7_layPlans cX7_layPlans 7 none 7 2 := ⟨⟨mg 1050 (by decide +kernel) rfl, mg 62 (by decide +kernel) rfl, inRX7, mg 1051 rfl rfl⟩, ⟨_, rfl, rfl⟩, ⟨by decide +kernel, by decide +kernel, by decide +kernel⟩, by decide⟩
set_option maxRecDepth 100000 in
theorem FX7_layStays : MF yX7_layStays cX7_layStays 9 (some .int) 7 4 := ⟨⟨mg 1087 (by decide +kernel) rfl, mg 69 (by decide +kernel) rfl, inRX7, mg 1088 rfl rfl⟩, ⟨_, rfl, rfl⟩, ⟨by decide +kernel, by decide +kernel, by decide +kernel⟩, by decide⟩
set_option maxRecDepth 100000 in
theorem FX7_layTried : MF yX7_layTried cX7_layTried 3 none 7 1 := ⟨⟨mg 1063 (by decide +kernel) rfl, mg 65 (by decide +kernel) rfl, inRX7, mg 1064 rfl rfl⟩, ⟨_, rfl, rfl⟩, ⟨by decide +kernel, by decide +kernel, by decide +kernel⟩, by decide⟩
set_option maxRecDepth 100000 in
theorem FX7_length : MF yX7_length cX7_length 1 (some .int) 7 0 := ⟨⟨mg 950 (by decide +kernel) rfl, mg 951 (by decide +kernel) rfl, inRX7, mg 952 rfl rfl⟩, ⟨_, rfl, rfl⟩, ⟨by decide +kernel, by decide +kernel, by decide +kernel⟩, by decide⟩
set_option maxRecDepth 100000 in
theorem FX7_loadPlan : MF yX7_loadPlan cX7_loadPlan 3 (some .int) 7 0 := ⟨⟨mg 1243 (by decide +kernel) rfl, mg 1244 (by decide +kernel) rfl, inRX7, mg 1245 rfl rfl⟩, ⟨_, rfl, rfl⟩, ⟨by decide +kernel, by decide +kernel, by decide +kernel⟩, by decide⟩
set_option maxRecDepth 100000 in
theorem FX7_loadRoutes : MF yX7_loadRoutes cX7_loadRoutes 4 (some .int) 7 0 := ⟨⟨mg 1239 (by decide +kernel) rfl, mg 1240 (by decide +kernel) rfl, inRX7, mg 1241 rfl rfl⟩, ⟨_, rfl, rfl⟩, ⟨by decide +kernel, by decide +kernel, by decide +kernel⟩, by decide⟩
set_option maxRecDepth 100000 in
theorem FX7_machineOf : MF yX7_machineOf cX7_machineOf 2 (some .int) 7 1 := ⟨⟨mg 931 (by decide +kernel) rfl, mg 38 (by decide +kernel) rfl, inRX7, mg 932 rfl rfl⟩, ⟨_, rfl, rfl⟩, ⟨by decide +kernel, by decide +kernel, by decide +kernel⟩, by decide⟩
set_option maxRecDepth 100000 in
theorem FX7_need : MF yX7_need cX7_need 2 none 7 1 := ⟨⟨mg 1220 (by decide +kernel) rfl, mg 91 (by decide +kernel) rfl, inRX7, mg 1221 rfl rfl⟩, ⟨_, rfl, rfl⟩, ⟨by decide +kernel, by decide +kernel, by decide +kernel⟩, by decide⟩
set_option maxRecDepth 100000 in
theorem FX7_next : MF yX7_next cX7_next 1 (some .int) 7 0 := ⟨⟨mg 1224 (by decide +kernel) rfl, mg 92 (by decide +kernel) rfl, inRX7, mg 1225 rfl rfl⟩, ⟨_, rfl, rfl⟩, ⟨by decide +kernel, by decide +kernel, by decide +kernel⟩, by decide⟩
set_option maxRecDepth 100000 in
theorem FX7_nextPlan : MF yX7_nextPlan cX7_nextPlan 9 (some .boolean) 7 3 := ⟨⟨mg 1054 (by decide +kernel) rfl, mg 63 (by decide +kernel) rfl, inRX7, mg 1055 rfl rfl⟩, ⟨_, rfl, rfl⟩, ⟨by decide +kernel, by decide +kernel, by decide +kernel⟩, by decide⟩
set_option maxRecDepth 100000 in
theorem FX7_nothingStays : MF yX7_nothingStays cX7_nothingStays 2 none 7 0 := ⟨⟨mg 959 (by decide +kernel) rfl, mg 43 (by decide +kernel) rfl, inRX7, mg 960 rfl rfl⟩, ⟨_, rfl, rfl⟩, ⟨by decide +kernel, by decide +kernel, by decide +kernel⟩, by decide⟩
set_option maxRecDepth 100000 in
theorem FX7_ofAJob : MF yX7_ofAJob cX7_ofAJob 3 (some .int) 7 2 := ⟨⟨mg 927 (by decide +kernel) rfl, mg 37 (by decide +kernel) rfl, inRX7, mg 928 rfl rfl⟩, ⟨_, rfl, rfl⟩, ⟨by decide +kernel, by decide +kernel, by decide +kernel⟩, by decide⟩
set_option maxRecDepth 100000 in
theorem FX7_ofJob : MF yX7_ofJob cX7_ofJob 3 (some .int) 7 2 := ⟨⟨mg 1106 (by decide +kernel) rfl, mg 1107 (by decide +kernel) rfl, inRX7, mg 1108 rfl rfl⟩, ⟨_, rfl, rfl⟩, ⟨by decide +kernel, by decide +kernel, by decide +kernel⟩, by decide⟩
set_option maxRecDepth 100000 in
theorem FX7_ofPlan : MF yX7_ofPlan cX7_ofPlan 5 (some .int) 7 1 := ⟨⟨mg 1127 (by decide +kernel) rfl, mg 74 (by decide +kernel) rfl, inRX7, mg 1128 rfl rfl⟩, ⟨_, rfl, rfl⟩, ⟨by decide +kernel, by decide +kernel, by decide +kernel⟩, by decide⟩
set_option maxRecDepth 100000 in
theorem FX7_operation : MF yX7_operation cX7_operation 4 (some .int) 7 3 := ⟨⟨mg 914 (by decide +kernel) rfl, mg 915 (by decide +kernel) rfl, inRX7, mg 916 rfl rfl⟩, ⟨_, rfl, rfl⟩, ⟨by decide +kernel, by decide +kernel, by decide +kernel⟩, by decide⟩
set_option maxRecDepth 100000 in
theorem FX7_operationAt : MF yX7_operationAt cX7_operationAt 3 (some .int) 7 2 := ⟨⟨mg 967 (by decide +kernel) rfl, mg 45 (by decide +kernel) rfl, inRX7, mg 968 rfl rfl⟩, ⟨_, rfl, rfl⟩, ⟨by decide +kernel, by decide +kernel, by decide +kernel⟩, by decide⟩
set_option maxRecDepth 100000 in
theorem FX7_operationOn : MF yX7_operationOn cX7_operationOn 4 (some .int) 7 2 := ⟨⟨mg 923 (by decide +kernel) rfl, mg 36 (by decide +kernel) rfl, inRX7, mg 924 rfl rfl⟩, ⟨_, rfl, rfl⟩, ⟨by decide +kernel, by decide +kernel, by decide +kernel⟩, by decide⟩
set_option maxRecDepth 100000 in
theorem FX7_order : MF yX7_order cX7_order 3 (some .int) 7 2 := ⟨⟨mg 1102 (by decide +kernel) rfl, mg 1103 (by decide +kernel) rfl, inRX7, mg 1104 rfl rfl⟩, ⟨_, rfl, rfl⟩, ⟨by decide +kernel, by decide +kernel, by decide +kernel⟩, by decide⟩
set_option maxRecDepth 100000 in
theorem FX7_path : MF yX7_path cX7_path 2 (some .int) 7 1 := ⟨⟨mg 1098 (by decide +kernel) rfl, mg 1099 (by decide +kernel) rfl, inRX7, mg 1100 rfl rfl⟩, ⟨_, rfl, rfl⟩, ⟨by decide +kernel, by decide +kernel, by decide +kernel⟩, by decide⟩
set_option maxRecDepth 100000 in
theorem FX7_placeOf : MF yX7_placeOf cX7_placeOf 4 (some .int) 7 1 := ⟨⟨mg 1030 (by decide +kernel) rfl, mg 58 (by decide +kernel) rfl, inRX7, mg 1031 rfl rfl⟩, ⟨_, rfl, rfl⟩, ⟨by decide +kernel, by decide +kernel, by decide +kernel⟩, by decide⟩
set_option maxRecDepth 100000 in
theorem FX7_placeOnPath : MF yX7_placeOnPath cX7_placeOnPath 3 (some .int) 7 1 := ⟨⟨mg 1095 (by decide +kernel) rfl, mg 70 (by decide +kernel) rfl, inRX7, mg 1096 rfl rfl⟩, ⟨_, rfl, rfl⟩, ⟨by decide +kernel, by decide +kernel, by decide +kernel⟩, by decide⟩
set_option maxRecDepth 100000 in
theorem FX7_put : MF yX7_put cX7_put 7 (some .int) 7 1 := ⟨⟨mg 1194 (by decide +kernel) rfl, mg 1195 (by decide +kernel) rfl, inRX7, mg 1196 rfl rfl⟩, ⟨_, rfl, rfl⟩, ⟨by decide +kernel, by decide +kernel, by decide +kernel⟩, by decide⟩
set_option maxRecDepth 100000 in
theorem FX7_putOrders : MF yX7_putOrders cX7_putOrders 3 none 7 1 := ⟨⟨mg 1071 (by decide +kernel) rfl, mg 67 (by decide +kernel) rfl, inRX7, mg 1072 rfl rfl⟩, ⟨_, rfl, rfl⟩, ⟨by decide +kernel, by decide +kernel, by decide +kernel⟩, by decide⟩
set_option maxRecDepth 100000 in
theorem FX7_raiseHead : MF yX7_raiseHead cX7_raiseHead 4 (some .boolean) 7 2 := ⟨⟨mg 975 (by decide +kernel) rfl, mg 47 (by decide +kernel) rfl, inRX7, mg 976 rfl rfl⟩, ⟨_, rfl, rfl⟩, ⟨by decide +kernel, by decide +kernel, by decide +kernel⟩, by decide⟩
set_option maxRecDepth 100000 in
theorem FX7_restore : MF yX7_restore cX7_restore 3 (some .int) 7 1 := ⟨⟨mg 1259 (by decide +kernel) rfl, mg 1260 (by decide +kernel) rfl, inRX7, mg 1261 rfl rfl⟩, ⟨_, rfl, rfl⟩, ⟨by decide +kernel, by decide +kernel, by decide +kernel⟩, by decide⟩
set_option maxRecDepth 100000 in
theorem FX7_save : MF yX7_save cX7_save 3 (some .int) 7 1 := ⟨⟨mg 1255 (by decide +kernel) rfl, mg 1256 (by decide +kernel) rfl, inRX7, mg 1257 rfl rfl⟩, ⟨_, rfl, rfl⟩, ⟨by decide +kernel, by decide +kernel, by decide +kernel⟩, by decide⟩
set_option maxRecDepth 100000 in
theorem FX7_search : MF yX7_search cX7_search 3 (some .int) 7 0 := ⟨⟨mg 1058 (by decide +kernel) rfl, mg 64 (by decide +kernel) rfl, inRX7, mg 1059 rfl rfl⟩, ⟨_, rfl, rfl⟩, ⟨by decide +kernel, by decide +kernel, by decide +kernel⟩, by decide⟩
set_option maxRecDepth 100000 in
theorem FX7_sumOf : MF yX7_sumOf cX7_sumOf 4 (some .int) 7 1 := ⟨⟨mg 1111 (by decide +kernel) rfl, mg 71 (by decide +kernel) rfl, inRX7, mg 1112 rfl rfl⟩, ⟨_, rfl, rfl⟩, ⟨by decide +kernel, by decide +kernel, by decide +kernel⟩, by decide⟩
set_option maxRecDepth 100000 in
theorem FX7_sumOfAll : MF yX7_sumOfAll cX7_sumOfAll 4 (some .int) 7 1 := ⟨⟨mg 1135 (by decide +kernel) rfl, mg 76 (by decide +kernel) rfl, inRX7, mg 1136 rfl rfl⟩, ⟨_, rfl, rfl⟩, ⟨by decide +kernel, by decide +kernel, by decide +kernel⟩, by decide⟩
set_option maxRecDepth 100000 in
theorem FX7_swap : MF yX7_swap cX7_swap 3 (some .int) 7 2 := ⟨⟨mg 1005 (by decide +kernel) rfl, mg 1006 (by decide +kernel) rfl, inRX7, mg 1007 rfl rfl⟩, ⟨_, rfl, rfl⟩, ⟨by decide +kernel, by decide +kernel, by decide +kernel⟩, by decide⟩
set_option maxRecDepth 100000 in
theorem FX7_tailAlone : MF yX7_tailAlone cX7_tailAlone 4 (some .int) 7 1 := ⟨⟨mg 1155 (by decide +kernel) rfl, mg 80 (by decide +kernel) rfl, inRX7, mg 1156 rfl rfl⟩, ⟨_, rfl, rfl⟩, ⟨by decide +kernel, by decide +kernel, by decide +kernel⟩, by decide⟩
set_option maxRecDepth 100000 in
theorem FX7_tailBy : MF yX7_tailBy cX7_tailBy 4 (some .int) 7 1 := ⟨⟨mg 1179 (by decide +kernel) rfl, mg 85 (by decide +kernel) rfl, inRX7, mg 1180 rfl rfl⟩, ⟨_, rfl, rfl⟩, ⟨by decide +kernel, by decide +kernel, by decide +kernel⟩, by decide⟩
set_option maxRecDepth 100000 in
theorem FX7_takeBest : MF yX7_takeBest cX7_takeBest 2 (some .int) 7 0 := ⟨⟨mg 1037 (by decide +kernel) rfl, mg 1038 (by decide +kernel) rfl, inRX7, mg 1039 rfl rfl⟩, ⟨_, rfl, rfl⟩, ⟨by decide +kernel, by decide +kernel, by decide +kernel⟩, by decide⟩
set_option maxRecDepth 100000 in
theorem FX7_takeDigit : MF yX7_takeDigit cX7_takeDigit 2 (some .int) 7 1 := ⟨⟨mg 1232 (by decide +kernel) rfl, mg 94 (by decide +kernel) rfl, inRX7, mg 1233 rfl rfl⟩, ⟨_, rfl, rfl⟩, ⟨by decide +kernel, by decide +kernel, by decide +kernel⟩, by decide⟩
set_option maxRecDepth 100000 in
theorem FX7_takeNumber : MF yX7_takeNumber cX7_takeNumber 4 (some .int) 7 2 := ⟨⟨mg 1228 (by decide +kernel) rfl, mg 93 (by decide +kernel) rfl, inRX7, mg 1229 rfl rfl⟩, ⟨_, rfl, rfl⟩, ⟨by decide +kernel, by decide +kernel, by decide +kernel⟩, by decide⟩
set_option maxRecDepth 100000 in
theorem FX7_takeOrder : MF yX7_takeOrder cX7_takeOrder 4 none 7 0 := ⟨⟨mg 1236 (by decide +kernel) rfl, mg 95 (by decide +kernel) rfl, inRX7, mg 1237 rfl rfl⟩, ⟨_, rfl, rfl⟩, ⟨by decide +kernel, by decide +kernel, by decide +kernel⟩, by decide⟩
set_option maxRecDepth 100000 in
theorem FX7_takePart : MF yX7_takePart cX7_takePart 2 none 7 1 := ⟨⟨mg 1212 (by decide +kernel) rfl, mg 89 (by decide +kernel) rfl, inRX7, mg 1213 rfl rfl⟩, ⟨_, rfl, rfl⟩, ⟨by decide +kernel, by decide +kernel, by decide +kernel⟩, by decide⟩
set_option maxRecDepth 100000 in
theorem FX7_takeRoute : MF yX7_takeRoute cX7_takeRoute 4 none 7 0 := ⟨⟨mg 1216 (by decide +kernel) rfl, mg 90 (by decide +kernel) rfl, inRX7, mg 1217 rfl rfl⟩, ⟨_, rfl, rfl⟩, ⟨by decide +kernel, by decide +kernel, by decide +kernel⟩, by decide⟩
set_option maxRecDepth 100000 in
theorem FX7_throughOf : MF yX7_throughOf cX7_throughOf 2 (some .int) 7 1 := ⟨⟨mg 1026 (by decide +kernel) rfl, mg 57 (by decide +kernel) rfl, inRX7, mg 1027 rfl rfl⟩, ⟨_, rfl, rfl⟩, ⟨by decide +kernel, by decide +kernel, by decide +kernel⟩, by decide⟩
set_option maxRecDepth 100000 in
theorem FX7_undo : MF yX7_undo cX7_undo 2 (some .int) 7 0 := ⟨⟨mg 1251 (by decide +kernel) rfl, mg 1252 (by decide +kernel) rfl, inRX7, mg 1253 rfl rfl⟩, ⟨_, rfl, rfl⟩, ⟨by decide +kernel, by decide +kernel, by decide +kernel⟩, by decide⟩
set_option maxRecDepth 100000 in
theorem FX7_wipe : MF yX7_wipe cX7_wipe 2 (some .int) 7 0 := ⟨⟨mg 1199 (by decide +kernel) rfl, mg 1200 (by decide +kernel) rfl, inRX7, mg 1201 rfl rfl⟩, ⟨_, rfl, rfl⟩, ⟨by decide +kernel, by decide +kernel, by decide +kernel⟩, by decide⟩
set_option maxRecDepth 100000 in
theorem FX7_withTail : MF yX7_withTail cX7_withTail 2 (some .int) 7 1 := ⟨⟨mg 998 (by decide +kernel) rfl, mg 52 (by decide +kernel) rfl, inRX7, mg 999 rfl rfl⟩, ⟨_, rfl, rfl⟩, ⟨by decide +kernel, by decide +kernel, by decide +kernel⟩, by decide⟩
set_option maxRecDepth 100000 in
theorem FX7_workedOn : MF yX7_workedOn cX7_workedOn 5 (some .int) 7 2 := ⟨⟨mg 1147 (by decide +kernel) rfl, mg 78 (by decide +kernel) rfl, inRX7, mg 1148 rfl rfl⟩, ⟨_, rfl, rfl⟩, ⟨by decide +kernel, by decide +kernel, by decide +kernel⟩, by decide⟩
theorem KRL_9 : Cond.methodLink RL 9 yX6_init ∈ lw_g := mg 108 (by decide +kernel) rfl
theorem KRX6_9 : Cond.methodLinkNest RX6 9 yX5_init "BottleneckShop" ∈ nw := mn 116 (by decide +kernel) rfl
theorem KRX6_21 : Cond.methodLink RX6 21 yX0_init ∈ lw_g := mg 165 (by decide +kernel) rfl
theorem KRX0_17 : Cond.methodLinkNest RX0 17 yX5_init "BottleneckShop" ∈ nw := mn 171 (by decide +kernel) rfl
theorem KRX6_36 : Cond.methodLinkNest RX6 36 yX2_init "BottleneckShop" ∈ nw := mn 185 (by decide +kernel) rfl
theorem KRX6_43 : Cond.methodLinkNest RX6 43 yX1_init "BottleneckShop" ∈ nw := mn 207 (by decide +kernel) rfl
theorem KRX6_50 : Cond.methodLinkNest RX6 50 yX3_init "BottleneckShop" ∈ nw := mn 265 (by decide +kernel) rfl
theorem KRX6_60 : Cond.methodLinkNest RX6 60 yX4_init "BottleneckShop" ∈ nw := mn 280 (by decide +kernel) rfl
theorem KRX4_11 : Cond.methodLinkNest RX4 11 yX1_init "BottleneckShop" ∈ nw := mn 285 (by decide +kernel) rfl
theorem KRL_13 : Cond.methodLink RL 13 yX6_job ∈ lw_g := mg 366 (by decide +kernel) rfl
theorem KRX6_68 : Cond.methodLink RX6 68 yX6_within ∈ lw_g := mg 370 (by decide +kernel) rfl
theorem KRX6_76 : Cond.methodLink RX6 76 yX6_record ∈ lw_g := mg 373 (by decide +kernel) rfl
theorem KRX6_256 : Cond.methodLink RX6 256 yX0_record ∈ lw_g := mg 377 (by decide +kernel) rfl
theorem KRX0_22 : Cond.methodLink RX0 22 yX5_become ∈ lw_g := mg 381 (by decide +kernel) rfl
theorem KRX5_37 : Cond.methodLinkNest RX5 37 yX6_copyRow "BottleneckShop" ∈ nw := mn 385 (by decide +kernel) rfl
theorem KRX6_253 : Cond.methodLink RX6 253 yX6_forgetAnswers ∈ lw_g := mg 388 (by decide +kernel) rfl
theorem KRX6_79 : Cond.methodLink RX6 79 yX5_addJob ∈ lw_g := mg 392 (by decide +kernel) rfl
theorem KRL_18 : Cond.methodLink RL 18 yX6_operation ∈ lw_g := mg 396 (by decide +kernel) rfl
theorem KRX6_83 : Cond.methodLink RX6 83 yX5_hasJob ∈ lw_g := mg 400 (by decide +kernel) rfl
theorem KRX6_87 : Cond.methodLink RX6 87 yX6_isMachine ∈ lw_g := mg 404 (by decide +kernel) rfl
theorem KRX6_90 : Cond.methodLink RX6 90 yX5_operationOf ∈ lw_g := mg 407 (by decide +kernel) rfl
theorem KRX6_93 : Cond.methodLink RX6 93 yX5_addOperation ∈ lw_g := mg 411 (by decide +kernel) rfl
theorem KRX5_41 : Cond.methodLink RX5 41 yX5_append ∈ lw_g := mg 415 (by decide +kernel) rfl
theorem KRL_23 : Cond.methodLink RL 23 yX6_change ∈ lw_g := mg 419 (by decide +kernel) rfl
theorem KRX6_97 : Cond.methodLink RX6 97 yX5_hasOperation ∈ lw_g := mg 423 (by decide +kernel) rfl
theorem KRL_27 : Cond.methodLink RL 27 yX6_swap ∈ lw_g := mg 427 (by decide +kernel) rfl
theorem KRX6_107 : Cond.methodLink RX6 107 yX5_exchange ∈ lw_g := mg 431 (by decide +kernel) rfl
theorem KRX6_111 : Cond.methodLink RX6 111 yX6_knowPlan ∈ lw_g := mg 435 (by decide +kernel) rfl
theorem KRX6_118 : Cond.methodLink RX6 118 yX1_load ∈ lw_g := mg 439 (by decide +kernel) rfl
theorem KRX1_55 : Cond.methodLinkNest RX1 55 yX6_copyRow "BottleneckShop" ∈ nw := mn 443 (by decide +kernel) rfl
theorem KRX6_265 : Cond.methodLink RX6 265 yX1_followOrders ∈ lw_g := mg 444 (by decide +kernel) rfl
theorem KRX1_67 : Cond.methodLink RX1 67 yX1_followOrder ∈ lw_g := mg 448 (by decide +kernel) rfl
theorem KRX1_71 : Cond.methodLink RX1 71 yX1_jobsOn ∈ lw_g := mg 452 (by decide +kernel) rfl
theorem KRX1_78 : Cond.methodLink RX1 78 yX1_letFirst ∈ lw_g := mg 456 (by decide +kernel) rfl
theorem KRX6_198 : Cond.methodLink RX6 198 yX1_measure ∈ lw_g := mg 460 (by decide +kernel) rfl
theorem KRX1_95 : Cond.methodLink RX1 95 yX1_sortAlong ∈ lw_g := mg 464 (by decide +kernel) rfl
theorem KRX1_102 : Cond.methodLink RX1 102 yX1_headOf ∈ lw_g := mg 468 (by decide +kernel) rfl
theorem KRX1_99 : Cond.methodLink RX1 99 yX1_tailOf ∈ lw_g := mg 472 (by decide +kernel) rfl
theorem KRX1_86 : Cond.methodLink RX1 86 yX1_endOf ∈ lw_g := mg 476 (by decide +kernel) rfl
theorem KRX6_271 : Cond.methodLink RX6 271 yX3_trace ∈ lw_g := mg 480 (by decide +kernel) rfl
theorem KRX3_19 : Cond.methodLink RX3 19 yX3_first ∈ lw_g := mg 484 (by decide +kernel) rfl
theorem KRX3_27 : Cond.methodLink RX3 27 yX5_hasOperation ∈ lw_g := mg 488 (by decide +kernel) rfl
theorem KRX3_33 : Cond.methodLink RX3 33 yX1_slackOf ∈ lw_g := mg 489 (by decide +kernel) rfl
theorem KRX3_23 : Cond.methodLink RX3 23 yX3_next ∈ lw_g := mg 493 (by decide +kernel) rfl
theorem KRX3_45 : Cond.methodLink RX3 45 yX1_endOf ∈ lw_g := mg 497 (by decide +kernel) rfl
theorem KRX3_51 : Cond.methodLink RX3 51 yX3_goesOn ∈ lw_g := mg 498 (by decide +kernel) rfl
theorem KRX3_55 : Cond.methodLink RX3 55 yX5_nextOnMachine ∈ lw_g := mg 502 (by decide +kernel) rfl
theorem KRX5_53 : Cond.methodLink RX5 53 yX5_placeOf ∈ lw_g := mg 506 (by decide +kernel) rfl
theorem KRX5_57 : Cond.methodLink RX5 57 yX5_operationAt ∈ lw_g := mg 510 (by decide +kernel) rfl
theorem KRX5_45 : Cond.methodLink RX5 45 yX5_hasPlace ∈ lw_g := mg 514 (by decide +kernel) rfl
theorem KRX5_49 : Cond.methodLink RX5 49 yX5_operationOf ∈ lw_g := mg 518 (by decide +kernel) rfl
theorem KRL_31 : Cond.methodLink RL 31 yX6_takeBest ∈ lw_g := mg 519 (by decide +kernel) rfl
theorem KRX6_122 : Cond.methodLink RX6 122 yX4_find ∈ lw_g := mg 523 (by decide +kernel) rfl
theorem KRX4_43 : Cond.methodLinkNest RX4 43 yX6_copyRow "BottleneckShop" ∈ nw := mn 527 (by decide +kernel) rfl
theorem KRX4_47 : Cond.methodLink RX4 47 yX1_measure ∈ lw_g := mg 528 (by decide +kernel) rfl
theorem KRX4_51 : Cond.methodLink RX4 51 yX1_greatestBound ∈ lw_g := mg 529 (by decide +kernel) rfl
theorem KRX1_123 : Cond.methodLink RX1 123 yX1_boundOf ∈ lw_g := mg 533 (by decide +kernel) rfl
theorem KRX1_126 : Cond.methodLink RX1 126 yX1_nextHead ∈ lw_g := mg 537 (by decide +kernel) rfl
theorem KRX1_129 : Cond.methodLink RX1 129 yX1_mostUrgent ∈ lw_g := mg 541 (by decide +kernel) rfl
theorem KRX4_59 : Cond.methodLink RX4 59 yX4_complete ∈ lw_g := mg 545 (by decide +kernel) rfl
theorem KRX4_63 : Cond.methodLink RX4 63 yX1_keeps ∈ lw_g := mg 549 (by decide +kernel) rfl
theorem KRX1_105 : Cond.methodLink RX1 105 yX1_measure ∈ lw_g := mg 553 (by decide +kernel) rfl
theorem KRX1_109 : Cond.methodLink RX1 109 yX1_forceOn ∈ lw_g := mg 554 (by decide +kernel) rfl
theorem KRX1_113 : Cond.methodLink RX1 113 yX1_undecided ∈ lw_g := mg 558 (by decide +kernel) rfl
theorem KRX1_82 : Cond.methodLink RX1 82 yX1_goesAhead ∈ lw_g := mg 562 (by decide +kernel) rfl
theorem KRX1_116 : Cond.methodLink RX1 116 yX1_wayThrough ∈ lw_g := mg 566 (by decide +kernel) rfl
theorem KRX1_119 : Cond.methodLink RX1 119 yX1_decide ∈ lw_g := mg 570 (by decide +kernel) rfl
theorem KRX4_84 : Cond.methodLink RX4 84 yX1_longestPair ∈ lw_g := mg 574 (by decide +kernel) rfl
theorem KRX4_87 : Cond.methodLink RX4 87 yX1_decide ∈ lw_g := mg 578 (by decide +kernel) rfl
theorem KRX4_67 : Cond.methodLink RX4 67 yX4_settle ∈ lw_g := mg 579 (by decide +kernel) rfl
theorem KRX4_71 : Cond.methodLink RX4 71 yX4_jobsLeft ∈ lw_g := mg 583 (by decide +kernel) rfl
theorem KRX4_81 : Cond.methodLink RX4 81 yX1_jobsOn ∈ lw_g := mg 587 (by decide +kernel) rfl
theorem KRX4_77 : Cond.methodLink RX4 77 yX1_letFirst ∈ lw_g := mg 588 (by decide +kernel) rfl
theorem KRX6_131 : Cond.methodLink RX6 131 yX6_copyRow ∈ lw_g := mg 589 (by decide +kernel) rfl
theorem KRL_36 : Cond.methodLink RL 36 yX6_improve ∈ lw_g := mg 590 (by decide +kernel) rfl
theorem KRX6_150 : Cond.methodLink RX6 150 yX6_lengthBehindNext ∈ lw_g := mg 594 (by decide +kernel) rfl
theorem KRX6_154 : Cond.methodLink RX6 154 yX5_placeOf ∈ lw_g := mg 598 (by decide +kernel) rfl
theorem KRL_40 : Cond.methodLink RL 40 yX6_length ∈ lw_g := mg 599 (by decide +kernel) rfl
theorem KRL_44 : Cond.methodLink RL 44 yX6_about ∈ lw_g := mg 603 (by decide +kernel) rfl
theorem KRX6_157 : Cond.methodLink RX6 157 yX6_timeAbout ∈ lw_g := mg 607 (by decide +kernel) rfl
theorem KRX6_306 : Cond.methodLink RX6 306 yX1_slackOf ∈ lw_g := mg 611 (by decide +kernel) rfl
theorem KRX6_309 : Cond.methodLink RX6 309 yX3_placeOf ∈ lw_g := mg 612 (by decide +kernel) rfl
theorem KRL_48 : Cond.methodLink RL 48 yX6_path ∈ lw_g := mg 616 (by decide +kernel) rfl
theorem KRL_53 : Cond.methodLink RL 53 yX6_order ∈ lw_g := mg 620 (by decide +kernel) rfl
theorem KRX6_160 : Cond.methodLink RX6 160 yX5_hasPlace ∈ lw_g := mg 624 (by decide +kernel) rfl
theorem KRL_57 : Cond.methodLink RL 57 yX6_ofJob ∈ lw_g := mg 625 (by decide +kernel) rfl
theorem KRX6_173 : Cond.methodLink RX6 173 yX5_work ∈ lw_g := mg 629 (by decide +kernel) rfl
theorem KRX6_176 : Cond.methodLink RX6 176 yX6_endOfJob ∈ lw_g := mg 633 (by decide +kernel) rfl
theorem KRX6_297 : Cond.methodLink RX6 297 yX1_endOf ∈ lw_g := mg 637 (by decide +kernel) rfl
theorem KRX6_179 : Cond.methodLink RX6 179 yX6_lateness ∈ lw_g := mg 638 (by decide +kernel) rfl
theorem KRL_61 : Cond.methodLink RL 61 yX6_count ∈ lw_g := mg 642 (by decide +kernel) rfl
theorem KRX6_182 : Cond.methodLink RX6 182 yX5_allSteps ∈ lw_g := mg 646 (by decide +kernel) rfl
theorem KRX6_186 : Cond.methodLink RX6 186 yX5_allWork ∈ lw_g := mg 650 (by decide +kernel) rfl
theorem KRX5_60 : Cond.methodLink RX5 60 yX5_work ∈ lw_g := mg 654 (by decide +kernel) rfl
theorem KRX6_195 : Cond.methodLink RX6 195 yX6_numberOfPlan ∈ lw_g := mg 655 (by decide +kernel) rfl
theorem KRX6_310 : Cond.methodLink RX6 310 yX3_blocks ∈ lw_g := mg 659 (by decide +kernel) rfl
theorem KRX6_313 : Cond.methodLink RX6 313 yX6_sumOfLateness ∈ lw_g := mg 663 (by decide +kernel) rfl
theorem KRX6_316 : Cond.methodLink RX6 316 yX6_greatestLateness ∈ lw_g := mg 667 (by decide +kernel) rfl
theorem KRL_65 : Cond.methodLink RL 65 yX6_bound ∈ lw_g := mg 671 (by decide +kernel) rfl
theorem KRX6_201 : Cond.methodLink RX6 201 yX1_greatestBound ∈ lw_g := mg 675 (by decide +kernel) rfl
theorem KRX6_204 : Cond.methodLink RX6 204 yX1_boundOf ∈ lw_g := mg 676 (by decide +kernel) rfl
theorem KRL_69 : Cond.methodLink RL 69 yX6_forced ∈ lw_g := mg 677 (by decide +kernel) rfl
theorem KRX6_207 : Cond.methodLink RX6 207 yX1_keeps ∈ lw_g := mg 681 (by decide +kernel) rfl
theorem KRX6_210 : Cond.methodLink RX6 210 yX1_decidedPairs ∈ lw_g := mg 682 (by decide +kernel) rfl
theorem KRL_73 : Cond.methodLink RL 73 yX6_isForced ∈ lw_g := mg 686 (by decide +kernel) rfl
theorem KRX6_213 : Cond.methodLink RX6 213 yX1_goesAhead ∈ lw_g := mg 690 (by decide +kernel) rfl
theorem KRL_77 : Cond.methodLink RL 77 yX6_best ∈ lw_g := mg 691 (by decide +kernel) rfl
theorem KRL_81 : Cond.methodLink RL 81 yX6_breakdown ∈ lw_g := mg 695 (by decide +kernel) rfl
theorem KRX6_216 : Cond.methodLink RX6 216 yX6_takeBreakdown ∈ lw_g := mg 699 (by decide +kernel) rfl
theorem KRX6_284 : Cond.methodLink RX6 284 yX5_operationAt ∈ lw_g := mg 703 (by decide +kernel) rfl
theorem KRX6_287 : Cond.methodLink RX6 287 yX6_stays ∈ lw_g := mg 704 (by decide +kernel) rfl
theorem KRX6_290 : Cond.methodLink RX6 290 yX1_holdBack ∈ lw_g := mg 708 (by decide +kernel) rfl
theorem KRX6_293 : Cond.methodLink RX6 293 yX1_followOrder ∈ lw_g := mg 712 (by decide +kernel) rfl
theorem KRL_88 : Cond.methodLink RL 88 yX6_put ∈ lw_g := mg 713 (by decide +kernel) rfl
theorem KRX6_220 : Cond.methodLink RX6 220 yX6_signsIn ∈ lw_g := mg 717 (by decide +kernel) rfl
theorem KRX6_226 : Cond.methodLink RX6 226 yX2_append ∈ lw_g := mg 721 (by decide +kernel) rfl
theorem KRL_93 : Cond.methodLink RL 93 yX6_wipe ∈ lw_g := mg 725 (by decide +kernel) rfl
theorem KRL_97 : Cond.methodLink RL 97 yX6_fault ∈ lw_g := mg 729 (by decide +kernel) rfl
theorem KRX6_230 : Cond.methodLink RX6 230 yX2_readRoutes ∈ lw_g := mg 733 (by decide +kernel) rfl
theorem KRX2_25 : Cond.methodLink RX2 25 yX5_clear ∈ lw_g := mg 737 (by decide +kernel) rfl
theorem KRX2_30 : Cond.methodLink RX2 30 yX2_readJob ∈ lw_g := mg 741 (by decide +kernel) rfl
theorem KRX2_34 : Cond.methodLink RX2 34 yX2_take ∈ lw_g := mg 745 (by decide +kernel) rfl
theorem KRX2_38 : Cond.methodLink RX2 38 yX2_number ∈ lw_g := mg 749 (by decide +kernel) rfl
theorem KRX2_49 : Cond.methodLink RX2 49 yX2_digit ∈ lw_g := mg 753 (by decide +kernel) rfl
theorem KRX2_42 : Cond.methodLink RX2 42 yX5_addJob ∈ lw_g := mg 757 (by decide +kernel) rfl
theorem KRX2_45 : Cond.methodLink RX2 45 yX2_readOperation ∈ lw_g := mg 758 (by decide +kernel) rfl
theorem KRX2_53 : Cond.methodLink RX2 53 yX5_operationOf ∈ lw_g := mg 762 (by decide +kernel) rfl
theorem KRX2_56 : Cond.methodLink RX2 56 yX5_addOperation ∈ lw_g := mg 763 (by decide +kernel) rfl
theorem KRX6_234 : Cond.methodLink RX6 234 yX2_readPlan ∈ lw_g := mg 764 (by decide +kernel) rfl
theorem KRX2_60 : Cond.methodLink RX2 60 yX2_readOrder ∈ lw_g := mg 768 (by decide +kernel) rfl
theorem KRX2_63 : Cond.methodLink RX2 63 yX2_names ∈ lw_g := mg 772 (by decide +kernel) rfl
theorem KRX2_67 : Cond.methodLink RX2 67 yX5_jobsInOrder ∈ lw_g := mg 776 (by decide +kernel) rfl
theorem KRX2_71 : Cond.methodLink RX2 71 yX2_anotherJobFor ∈ lw_g := mg 780 (by decide +kernel) rfl
theorem KRX2_74 : Cond.methodLink RX2 74 yX5_append ∈ lw_g := mg 784 (by decide +kernel) rfl
theorem KRL_101 : Cond.methodLink RL 101 yX6_loadRoutes ∈ lw_g := mg 785 (by decide +kernel) rfl
theorem KRX6_237 : Cond.methodLink RX6 237 yX5_become ∈ lw_g := mg 789 (by decide +kernel) rfl
theorem KRL_105 : Cond.methodLink RL 105 yX6_loadPlan ∈ lw_g := mg 790 (by decide +kernel) rfl
theorem KRX6_240 : Cond.methodLink RX6 240 yX2_names ∈ lw_g := mg 794 (by decide +kernel) rfl
theorem KRX6_243 : Cond.methodLink RX6 243 yX5_jobsInOrder ∈ lw_g := mg 795 (by decide +kernel) rfl
theorem KRX6_246 : Cond.methodLink RX6 246 yX5_takeOrder ∈ lw_g := mg 796 (by decide +kernel) rfl
theorem KRL_109 : Cond.methodLink RL 109 yX6_undo ∈ lw_g := mg 800 (by decide +kernel) rfl
theorem KRX6_250 : Cond.methodLink RX6 250 yX0_takeBack ∈ lw_g := mg 804 (by decide +kernel) rfl
theorem KRL_113 : Cond.methodLink RL 113 yX6_save ∈ lw_g := mg 808 (by decide +kernel) rfl
theorem KRL_117 : Cond.methodLink RL 117 yX6_restore ∈ lw_g := mg 812 (by decide +kernel) rfl
theorem KRL_12 : Cond.methodLink RL 12 yX7_init ∈ lw_g := mg 818 (by decide +kernel) rfl
theorem KRL_17 : Cond.methodLink RL 17 yX7_job ∈ lw_g := mg 898 (by decide +kernel) rfl
theorem KRX7_87 : Cond.methodLink RX7 87 yX7_in ∈ lw_g := mg 902 (by decide +kernel) rfl
theorem KRX7_91 : Cond.methodLink RX7 91 yX7_keep ∈ lw_g := mg 905 (by decide +kernel) rfl
theorem KRX7_94 : Cond.methodLink RX7 94 yX7_addJob ∈ lw_g := mg 909 (by decide +kernel) rfl
theorem KRL_22 : Cond.methodLink RL 22 yX7_operation ∈ lw_g := mg 913 (by decide +kernel) rfl
theorem KRX7_65 : Cond.methodLink RX7 65 yX7_isJob ∈ lw_g := mg 917 (by decide +kernel) rfl
theorem KRX7_80 : Cond.methodLink RX7 80 yX7_operationOn ∈ lw_g := mg 921 (by decide +kernel) rfl
theorem KRX7_69 : Cond.methodLink RX7 69 yX7_ofAJob ∈ lw_g := mg 925 (by decide +kernel) rfl
theorem KRX7_73 : Cond.methodLink RX7 73 yX7_machineOf ∈ lw_g := mg 929 (by decide +kernel) rfl
theorem KRX7_98 : Cond.methodLink RX7 98 yX7_addOperation ∈ lw_g := mg 933 (by decide +kernel) rfl
theorem KRL_26 : Cond.methodLink RL 26 yX7_change ∈ lw_g := mg 937 (by decide +kernel) rfl
theorem KRX7_102 : Cond.methodLink RX7 102 yX7_isOperation ∈ lw_g := mg 941 (by decide +kernel) rfl
theorem KRX7_105 : Cond.methodLink RX7 105 yX7_lasts ∈ lw_g := mg 945 (by decide +kernel) rfl
theorem KRL_43 : Cond.methodLink RL 43 yX7_length ∈ lw_g := mg 949 (by decide +kernel) rfl
theorem KRX7_139 : Cond.methodLink RX7 139 yX7_find ∈ lw_g := mg 953 (by decide +kernel) rfl
theorem KRX7_130 : Cond.methodLink RX7 130 yX7_nothingStays ∈ lw_g := mg 957 (by decide +kernel) rfl
theorem KRX7_133 : Cond.methodLink RX7 133 yX7_findHeads ∈ lw_g := mg 961 (by decide +kernel) rfl
theorem KRX7_117 : Cond.methodLink RX7 117 yX7_operationAt ∈ lw_g := mg 965 (by decide +kernel) rfl
theorem KRX7_77 : Cond.methodLink RX7 77 yX7_jobAt ∈ lw_g := mg 969 (by decide +kernel) rfl
theorem KRX7_120 : Cond.methodLink RX7 120 yX7_raiseHead ∈ lw_g := mg 973 (by decide +kernel) rfl
theorem KRX7_108 : Cond.methodLink RX7 108 yX7_greater ∈ lw_g := mg 977 (by decide +kernel) rfl
theorem KRX7_111 : Cond.methodLink RX7 111 yX7_beforeOnRoute ∈ lw_g := mg 980 (by decide +kernel) rfl
theorem KRX7_114 : Cond.methodLink RX7 114 yX7_endOf ∈ lw_g := mg 984 (by decide +kernel) rfl
theorem KRX7_136 : Cond.methodLink RX7 136 yX7_findTails ∈ lw_g := mg 988 (by decide +kernel) rfl
theorem KRX7_124 : Cond.methodLink RX7 124 yX7_behindOnRoute ∈ lw_g := mg 992 (by decide +kernel) rfl
theorem KRX7_127 : Cond.methodLink RX7 127 yX7_withTail ∈ lw_g := mg 996 (by decide +kernel) rfl
theorem KRX7_143 : Cond.methodLink RX7 143 yX7_lastEnd ∈ lw_g := mg 1000 (by decide +kernel) rfl
theorem KRL_30 : Cond.methodLink RL 30 yX7_swap ∈ lw_g := mg 1004 (by decide +kernel) rfl
theorem KRX7_162 : Cond.methodLink RX7 162 yX7_exchange ∈ lw_g := mg 1008 (by decide +kernel) rfl
theorem KRL_39 : Cond.methodLink RL 39 yX7_improve ∈ lw_g := mg 1012 (by decide +kernel) rfl
theorem KRX7_165 : Cond.methodLink RX7 165 yX7_findCritical ∈ lw_g := mg 1016 (by decide +kernel) rfl
theorem KRX7_150 : Cond.methodLink RX7 150 yX7_isCritical ∈ lw_g := mg 1020 (by decide +kernel) rfl
theorem KRX7_147 : Cond.methodLink RX7 147 yX7_throughOf ∈ lw_g := mg 1024 (by decide +kernel) rfl
theorem KRX7_156 : Cond.methodLink RX7 156 yX7_placeOf ∈ lw_g := mg 1028 (by decide +kernel) rfl
theorem KRX7_159 : Cond.methodLink RX7 159 yX7_goesOn ∈ lw_g := mg 1032 (by decide +kernel) rfl
theorem KRL_35 : Cond.methodLink RL 35 yX7_takeBest ∈ lw_g := mg 1036 (by decide +kernel) rfl
theorem KRX7_192 : Cond.methodLink RX7 192 yX7_findBest ∈ lw_g := mg 1040 (by decide +kernel) rfl
theorem KRX7_179 : Cond.methodLink RX7 179 yX7_keepOrders ∈ lw_g := mg 1044 (by decide +kernel) rfl
theorem KRX7_182 : Cond.methodLink RX7 182 yX7_layPlans ∈ lw_g := mg 1048 (by decide +kernel) rfl
theorem KRX7_168 : Cond.methodLink RX7 168 yX7_nextPlan ∈ lw_g := mg 1052 (by decide +kernel) rfl
theorem KRX7_185 : Cond.methodLink RX7 185 yX7_search ∈ lw_g := mg 1056 (by decide +kernel) rfl
theorem KRX7_172 : Cond.methodLink RX7 172 yX7_layTried ∈ lw_g := mg 1061 (by decide +kernel) rfl
theorem KRX7_176 : Cond.methodLink RX7 176 yX7_keepFound ∈ lw_g := mg 1065 (by decide +kernel) rfl
theorem KRX7_188 : Cond.methodLink RX7 188 yX7_putOrders ∈ lw_g := mg 1069 (by decide +kernel) rfl
theorem KRL_80 : Cond.methodLink RL 80 yX7_best ∈ lw_g := mg 1073 (by decide +kernel) rfl
theorem KRX7_195 : Cond.methodLink RX7 195 yX7_foundAt ∈ lw_g := mg 1077 (by decide +kernel) rfl
theorem KRL_85 : Cond.methodLink RL 85 yX7_breakdown ∈ lw_g := mg 1081 (by decide +kernel) rfl
theorem KRX7_198 : Cond.methodLink RX7 198 yX7_layStays ∈ lw_g := mg 1085 (by decide +kernel) rfl
theorem KRL_47 : Cond.methodLink RL 47 yX7_about ∈ lw_g := mg 1089 (by decide +kernel) rfl
theorem KRX7_202 : Cond.methodLink RX7 202 yX7_placeOnPath ∈ lw_g := mg 1093 (by decide +kernel) rfl
theorem KRL_52 : Cond.methodLink RL 52 yX7_path ∈ lw_g := mg 1097 (by decide +kernel) rfl
theorem KRL_56 : Cond.methodLink RL 56 yX7_order ∈ lw_g := mg 1101 (by decide +kernel) rfl
theorem KRL_60 : Cond.methodLink RL 60 yX7_ofJob ∈ lw_g := mg 1105 (by decide +kernel) rfl
theorem KRX7_208 : Cond.methodLink RX7 208 yX7_sumOf ∈ lw_g := mg 1109 (by decide +kernel) rfl
theorem KRX7_205 : Cond.methodLink RX7 205 yX7_endOfJob ∈ lw_g := mg 1113 (by decide +kernel) rfl
theorem KRX7_211 : Cond.methodLink RX7 211 yX7_lateness ∈ lw_g := mg 1117 (by decide +kernel) rfl
theorem KRL_64 : Cond.methodLink RL 64 yX7_count ∈ lw_g := mg 1121 (by decide +kernel) rfl
theorem KRX7_217 : Cond.methodLink RX7 217 yX7_ofPlan ∈ lw_g := mg 1125 (by decide +kernel) rfl
theorem KRX7_214 : Cond.methodLink RX7 214 yX7_blocks ∈ lw_g := mg 1129 (by decide +kernel) rfl
theorem KRX7_220 : Cond.methodLink RX7 220 yX7_sumOfAll ∈ lw_g := mg 1133 (by decide +kernel) rfl
theorem KRL_68 : Cond.methodLink RL 68 yX7_bound ∈ lw_g := mg 1137 (by decide +kernel) rfl
theorem KRX7_236 : Cond.methodLink RX7 236 yX7_boundOf ∈ lw_g := mg 1141 (by decide +kernel) rfl
theorem KRX7_233 : Cond.methodLink RX7 233 yX7_workedOn ∈ lw_g := mg 1145 (by decide +kernel) rfl
theorem KRX7_227 : Cond.methodLink RX7 227 yX7_headAlone ∈ lw_g := mg 1149 (by decide +kernel) rfl
theorem KRX7_230 : Cond.methodLink RX7 230 yX7_tailAlone ∈ lw_g := mg 1153 (by decide +kernel) rfl
theorem KRL_72 : Cond.methodLink RL 72 yX7_forced ∈ lw_g := mg 1157 (by decide +kernel) rfl
theorem KRX7_257 : Cond.methodLink RX7 257 yX7_force ∈ lw_g := mg 1161 (by decide +kernel) rfl
theorem KRX7_248 : Cond.methodLink RX7 248 yX7_findForced ∈ lw_g := mg 1165 (by decide +kernel) rfl
theorem KRX7_242 : Cond.methodLink RX7 242 yX7_headBy ∈ lw_g := mg 1169 (by decide +kernel) rfl
theorem KRX7_239 : Cond.methodLink RX7 239 yX7_isSet ∈ lw_g := mg 1173 (by decide +kernel) rfl
theorem KRX7_245 : Cond.methodLink RX7 245 yX7_tailBy ∈ lw_g := mg 1177 (by decide +kernel) rfl
theorem KRX7_251 : Cond.methodLink RX7 251 yX7_areTwo ∈ lw_g := mg 1181 (by decide +kernel) rfl
theorem KRX7_254 : Cond.methodLink RX7 254 yX7_isForcedBoth ∈ lw_g := mg 1185 (by decide +kernel) rfl
theorem KRL_76 : Cond.methodLink RL 76 yX7_isForced ∈ lw_g := mg 1189 (by decide +kernel) rfl
theorem KRL_92 : Cond.methodLink RL 92 yX7_put ∈ lw_g := mg 1193 (by decide +kernel) rfl
theorem KRL_96 : Cond.methodLink RL 96 yX7_wipe ∈ lw_g := mg 1198 (by decide +kernel) rfl
theorem KRL_100 : Cond.methodLink RL 100 yX7_fault ∈ lw_g := mg 1202 (by decide +kernel) rfl
theorem KRX7_296 : Cond.methodLink RX7 296 yX7_faultOf ∈ lw_g := mg 1206 (by decide +kernel) rfl
theorem KRX7_293 : Cond.methodLink RX7 293 yX7_takePart ∈ lw_g := mg 1210 (by decide +kernel) rfl
theorem KRX7_287 : Cond.methodLink RX7 287 yX7_takeRoute ∈ lw_g := mg 1214 (by decide +kernel) rfl
theorem KRX7_275 : Cond.methodLink RX7 275 yX7_need ∈ lw_g := mg 1218 (by decide +kernel) rfl
theorem KRX7_269 : Cond.methodLink RX7 269 yX7_next ∈ lw_g := mg 1222 (by decide +kernel) rfl
theorem KRX7_278 : Cond.methodLink RX7 278 yX7_takeNumber ∈ lw_g := mg 1226 (by decide +kernel) rfl
theorem KRX7_281 : Cond.methodLink RX7 281 yX7_takeDigit ∈ lw_g := mg 1230 (by decide +kernel) rfl
theorem KRX7_290 : Cond.methodLink RX7 290 yX7_takeOrder ∈ lw_g := mg 1234 (by decide +kernel) rfl
theorem KRL_104 : Cond.methodLink RL 104 yX7_loadRoutes ∈ lw_g := mg 1238 (by decide +kernel) rfl
theorem KRL_108 : Cond.methodLink RL 108 yX7_loadPlan ∈ lw_g := mg 1242 (by decide +kernel) rfl
theorem KRX7_299 : Cond.methodLink RX7 299 yX7_fitsOrder ∈ lw_g := mg 1246 (by decide +kernel) rfl
theorem KRL_112 : Cond.methodLink RL 112 yX7_undo ∈ lw_g := mg 1250 (by decide +kernel) rfl
theorem KRL_116 : Cond.methodLink RL 116 yX7_save ∈ lw_g := mg 1254 (by decide +kernel) rfl
theorem KRL_120 : Cond.methodLink RL 120 yX7_restore ∈ lw_g := mg 1258 (by decide +kernel) rfl
def frX0 : Nat → Option (Nat × Nat × Int)
  | 11 => some (0, 0, 0)
  | 18 => some (0, 2, 2)
  | 26 => some (0, 1, 1)
  | _ => none
theorem frX0_ok : FldOK RX0 frX0 := by
  intro k t j z h
  unfold frX0 at h
  split at h
  · cases h; exact ⟨_, rfl, rfl, by decide, mg 172 (by decide +kernel) rfl⟩
  · cases h; exact ⟨_, rfl, rfl, by decide, mg 175 (by decide +kernel) rfl⟩
  · cases h; exact ⟨_, rfl, rfl, by decide, mg 173 (by decide +kernel) rfl⟩
  · cases h
def frX1 : Nat → Option (Nat × Nat × Int)
  | 9 => some (1, 0, 0)
  | 15 => some (1, 1, 1)
  | 18 => some (1, 2, 2)
  | 21 => some (1, 3, 3)
  | 24 => some (1, 4, 4)
  | 27 => some (1, 5, 5)
  | 30 => some (1, 6, 6)
  | 33 => some (1, 7, 7)
  | 36 => some (1, 10, 10)
  | 39 => some (1, 12, 12)
  | 42 => some (1, 13, 13)
  | 45 => some (1, 14, 14)
  | 48 => some (1, 9, 9)
  | 52 => some (5, 3, 3)
  | 59 => some (5, 4, 4)
  | 60 => some (5, 5, 5)
  | 61 => some (5, 1, 1)
  | 64 => some (5, 6, 6)
  | 75 => some (5, 7, 7)
  | 89 => some (1, 8, 8)
  | 92 => some (1, 11, 11)
  | _ => none
theorem frX1_ok : FldOK RX1 frX1 := by
  intro k t j z h
  unfold frX1 at h
  split at h
  · cases h; exact ⟨_, rfl, rfl, by decide, mg 211 (by decide +kernel) rfl⟩
  · cases h; exact ⟨_, rfl, rfl, by decide, mg 212 (by decide +kernel) rfl⟩
  · cases h; exact ⟨_, rfl, rfl, by decide, mg 213 (by decide +kernel) rfl⟩
  · cases h; exact ⟨_, rfl, rfl, by decide, mg 214 (by decide +kernel) rfl⟩
  · cases h; exact ⟨_, rfl, rfl, by decide, mg 215 (by decide +kernel) rfl⟩
  · cases h; exact ⟨_, rfl, rfl, by decide, mg 217 (by decide +kernel) rfl⟩
  · cases h; exact ⟨_, rfl, rfl, by decide, mg 219 (by decide +kernel) rfl⟩
  · cases h; exact ⟨_, rfl, rfl, by decide, mg 222 (by decide +kernel) rfl⟩
  · cases h; exact ⟨_, rfl, rfl, by decide, mg 227 (by decide +kernel) rfl⟩
  · cases h; exact ⟨_, rfl, rfl, by decide, mg 229 (by decide +kernel) rfl⟩
  · cases h; exact ⟨_, rfl, rfl, by decide, mg 230 (by decide +kernel) rfl⟩
  · cases h; exact ⟨_, rfl, rfl, by decide, mg 231 (by decide +kernel) rfl⟩
  · cases h; exact ⟨_, rfl, rfl, by decide, mg 226 (by decide +kernel) rfl⟩
  · cases h; exact ⟨_, rfl, rfl, by decide, mg 129 (by decide +kernel) rfl⟩
  · cases h; exact ⟨_, rfl, rfl, by decide, mg 133 (by decide +kernel) rfl⟩
  · cases h; exact ⟨_, rfl, rfl, by decide, mg 137 (by decide +kernel) rfl⟩
  · cases h; exact ⟨_, rfl, rfl, by decide, mg 123 (by decide +kernel) rfl⟩
  · cases h; exact ⟨_, rfl, rfl, by decide, mg 140 (by decide +kernel) rfl⟩
  · cases h; exact ⟨_, rfl, rfl, by decide, mg 143 (by decide +kernel) rfl⟩
  · cases h; exact ⟨_, rfl, rfl, by decide, mg 225 (by decide +kernel) rfl⟩
  · cases h; exact ⟨_, rfl, rfl, by decide, mg 228 (by decide +kernel) rfl⟩
  · cases h
def frX2 : Nat → Option (Nat × Nat × Int)
  | 9 => some (2, 0, 0)
  | 15 => some (2, 1, 1)
  | 19 => some (2, 3, 3)
  | 22 => some (2, 2, 2)
  | _ => none
theorem frX2_ok : FldOK RX2 frX2 := by
  intro k t j z h
  unfold frX2 at h
  split at h
  · cases h; exact ⟨_, rfl, rfl, by decide, mg 189 (by decide +kernel) rfl⟩
  · cases h; exact ⟨_, rfl, rfl, by decide, mg 190 (by decide +kernel) rfl⟩
  · cases h; exact ⟨_, rfl, rfl, by decide, mg 193 (by decide +kernel) rfl⟩
  · cases h; exact ⟨_, rfl, rfl, by decide, mg 192 (by decide +kernel) rfl⟩
  · cases h
def frX3 : Nat → Option (Nat × Nat × Int)
  | 9 => some (3, 0, 0)
  | 15 => some (3, 1, 1)
  | 39 => some (1, 6, 6)
  | 42 => some (5, 1, 1)
  | 48 => some (5, 3, 3)
  | 58 => some (5, 4, 4)
  | _ => none
theorem frX3_ok : FldOK RX3 frX3 := by
  intro k t j z h
  unfold frX3 at h
  split at h
  · cases h; exact ⟨_, rfl, rfl, by decide, mg 269 (by decide +kernel) rfl⟩
  · cases h; exact ⟨_, rfl, rfl, by decide, mg 271 (by decide +kernel) rfl⟩
  · cases h; exact ⟨_, rfl, rfl, by decide, mg 220 (by decide +kernel) rfl⟩
  · cases h; exact ⟨_, rfl, rfl, by decide, mg 124 (by decide +kernel) rfl⟩
  · cases h; exact ⟨_, rfl, rfl, by decide, mg 130 (by decide +kernel) rfl⟩
  · cases h; exact ⟨_, rfl, rfl, by decide, mg 134 (by decide +kernel) rfl⟩
  · cases h
def frX4 : Nat → Option (Nat × Nat × Int)
  | 12 => some (4, 0, 0)
  | 18 => some (4, 3, 3)
  | 22 => some (4, 4, 4)
  | 25 => some (4, 5, 5)
  | 28 => some (4, 6, 6)
  | 33 => some (4, 7, 7)
  | 36 => some (4, 1, 1)
  | 40 => some (1, 5, 5)
  | 55 => some (4, 2, 2)
  | 74 => some (1, 4, 4)
  | _ => none
theorem frX4_ok : FldOK RX4 frX4 := by
  intro k t j z h
  unfold frX4 at h
  split at h
  · cases h; exact ⟨_, rfl, rfl, by decide, mg 288 (by decide +kernel) rfl⟩
  · cases h; exact ⟨_, rfl, rfl, by decide, mg 294 (by decide +kernel) rfl⟩
  · cases h; exact ⟨_, rfl, rfl, by decide, mg 296 (by decide +kernel) rfl⟩
  · cases h; exact ⟨_, rfl, rfl, by decide, mg 297 (by decide +kernel) rfl⟩
  · cases h; exact ⟨_, rfl, rfl, by decide, mg 298 (by decide +kernel) rfl⟩
  · cases h; exact ⟨_, rfl, rfl, by decide, mg 299 (by decide +kernel) rfl⟩
  · cases h; exact ⟨_, rfl, rfl, by decide, mg 290 (by decide +kernel) rfl⟩
  · cases h; exact ⟨_, rfl, rfl, by decide, mg 218 (by decide +kernel) rfl⟩
  · cases h; exact ⟨_, rfl, rfl, by decide, mg 292 (by decide +kernel) rfl⟩
  · cases h; exact ⟨_, rfl, rfl, by decide, mg 216 (by decide +kernel) rfl⟩
  · cases h
def frX5 : Nat → Option (Nat × Nat × Int)
  | 9 => some (5, 1, 1)
  | 15 => some (5, 2, 2)
  | 18 => some (5, 3, 3)
  | 21 => some (5, 4, 4)
  | 24 => some (5, 5, 5)
  | 27 => some (5, 6, 6)
  | 30 => some (5, 7, 7)
  | 33 => some (5, 0, 0)
  | _ => none
theorem frX5_ok : FldOK RX5 frX5 := by
  intro k t j z h
  unfold frX5 at h
  split at h
  · cases h; exact ⟨_, rfl, rfl, by decide, mg 122 (by decide +kernel) rfl⟩
  · cases h; exact ⟨_, rfl, rfl, by decide, mg 126 (by decide +kernel) rfl⟩
  · cases h; exact ⟨_, rfl, rfl, by decide, mg 128 (by decide +kernel) rfl⟩
  · cases h; exact ⟨_, rfl, rfl, by decide, mg 132 (by decide +kernel) rfl⟩
  · cases h; exact ⟨_, rfl, rfl, by decide, mg 136 (by decide +kernel) rfl⟩
  · cases h; exact ⟨_, rfl, rfl, by decide, mg 139 (by decide +kernel) rfl⟩
  · cases h; exact ⟨_, rfl, rfl, by decide, mg 142 (by decide +kernel) rfl⟩
  · cases h; exact ⟨_, rfl, rfl, by decide, mg 120 (by decide +kernel) rfl⟩
  · cases h
def frX6 : Nat → Option (Nat × Nat × Int)
  | 10 => some (6, 0, 0)
  | 16 => some (6, 1, 1)
  | 22 => some (6, 2, 2)
  | 26 => some (6, 3, 3)
  | 30 => some (6, 4, 4)
  | 37 => some (6, 5, 5)
  | 44 => some (6, 6, 6)
  | 51 => some (6, 7, 7)
  | 55 => some (6, 10, 10)
  | 61 => some (6, 11, 11)
  | 65 => some (6, 12, 12)
  | 72 => some (5, 0, 0)
  | 100 => some (5, 5, 5)
  | 104 => some (5, 6, 6)
  | 115 => some (4, 0, 0)
  | 125 => some (4, 3, 3)
  | 128 => some (5, 7, 7)
  | 135 => some (4, 2, 2)
  | 138 => some (1, 8, 8)
  | 141 => some (3, 1, 1)
  | 144 => some (3, 0, 0)
  | 147 => some (5, 4, 4)
  | 164 => some (5, 1, 1)
  | 167 => some (5, 2, 2)
  | 170 => some (5, 3, 3)
  | 189 => some (2, 1, 1)
  | 192 => some (0, 1, 1)
  | 258 => some (6, 8, 8)
  | 262 => some (4, 1, 1)
  | 268 => some (6, 9, 9)
  | 275 => some (6, 13, 13)
  | 278 => some (6, 14, 14)
  | 281 => some (6, 15, 15)
  | 300 => some (1, 6, 6)
  | 303 => some (1, 7, 7)
  | _ => none
theorem frX6_ok : FldOK RX6 frX6 := by
  intro k t j z h
  unfold frX6 at h
  split at h
  · cases h; exact ⟨_, rfl, rfl, by decide, mg 317 (by decide +kernel) rfl⟩
  · cases h; exact ⟨_, rfl, rfl, by decide, mg 318 (by decide +kernel) rfl⟩
  · cases h; exact ⟨_, rfl, rfl, by decide, mg 319 (by decide +kernel) rfl⟩
  · cases h; exact ⟨_, rfl, rfl, by decide, mg 320 (by decide +kernel) rfl⟩
  · cases h; exact ⟨_, rfl, rfl, by decide, mg 321 (by decide +kernel) rfl⟩
  · cases h; exact ⟨_, rfl, rfl, by decide, mg 322 (by decide +kernel) rfl⟩
  · cases h; exact ⟨_, rfl, rfl, by decide, mg 323 (by decide +kernel) rfl⟩
  · cases h; exact ⟨_, rfl, rfl, by decide, mg 324 (by decide +kernel) rfl⟩
  · cases h; exact ⟨_, rfl, rfl, by decide, mg 327 (by decide +kernel) rfl⟩
  · cases h; exact ⟨_, rfl, rfl, by decide, mg 328 (by decide +kernel) rfl⟩
  · cases h; exact ⟨_, rfl, rfl, by decide, mg 329 (by decide +kernel) rfl⟩
  · cases h; exact ⟨_, rfl, rfl, by decide, mg 121 (by decide +kernel) rfl⟩
  · cases h; exact ⟨_, rfl, rfl, by decide, mg 138 (by decide +kernel) rfl⟩
  · cases h; exact ⟨_, rfl, rfl, by decide, mg 141 (by decide +kernel) rfl⟩
  · cases h; exact ⟨_, rfl, rfl, by decide, mg 289 (by decide +kernel) rfl⟩
  · cases h; exact ⟨_, rfl, rfl, by decide, mg 295 (by decide +kernel) rfl⟩
  · cases h; exact ⟨_, rfl, rfl, by decide, mg 144 (by decide +kernel) rfl⟩
  · cases h; exact ⟨_, rfl, rfl, by decide, mg 293 (by decide +kernel) rfl⟩
  · cases h; exact ⟨_, rfl, rfl, by decide, mg 224 (by decide +kernel) rfl⟩
  · cases h; exact ⟨_, rfl, rfl, by decide, mg 272 (by decide +kernel) rfl⟩
  · cases h; exact ⟨_, rfl, rfl, by decide, mg 270 (by decide +kernel) rfl⟩
  · cases h; exact ⟨_, rfl, rfl, by decide, mg 135 (by decide +kernel) rfl⟩
  · cases h; exact ⟨_, rfl, rfl, by decide, mg 125 (by decide +kernel) rfl⟩
  · cases h; exact ⟨_, rfl, rfl, by decide, mg 127 (by decide +kernel) rfl⟩
  · cases h; exact ⟨_, rfl, rfl, by decide, mg 131 (by decide +kernel) rfl⟩
  · cases h; exact ⟨_, rfl, rfl, by decide, mg 191 (by decide +kernel) rfl⟩
  · cases h; exact ⟨_, rfl, rfl, by decide, mg 174 (by decide +kernel) rfl⟩
  · cases h; exact ⟨_, rfl, rfl, by decide, mg 325 (by decide +kernel) rfl⟩
  · cases h; exact ⟨_, rfl, rfl, by decide, mg 291 (by decide +kernel) rfl⟩
  · cases h; exact ⟨_, rfl, rfl, by decide, mg 326 (by decide +kernel) rfl⟩
  · cases h; exact ⟨_, rfl, rfl, by decide, mg 330 (by decide +kernel) rfl⟩
  · cases h; exact ⟨_, rfl, rfl, by decide, mg 331 (by decide +kernel) rfl⟩
  · cases h; exact ⟨_, rfl, rfl, by decide, mg 332 (by decide +kernel) rfl⟩
  · cases h; exact ⟨_, rfl, rfl, by decide, mg 221 (by decide +kernel) rfl⟩
  · cases h; exact ⟨_, rfl, rfl, by decide, mg 223 (by decide +kernel) rfl⟩
  · cases h
def frX7 : Nat → Option (Nat × Nat × Int)
  | 7 => some (7, 0, 0)
  | 13 => some (7, 1, 1)
  | 16 => some (7, 3, 3)
  | 19 => some (7, 4, 4)
  | 23 => some (7, 5, 5)
  | 26 => some (7, 7, 7)
  | 29 => some (7, 8, 8)
  | 32 => some (7, 9, 9)
  | 35 => some (7, 10, 10)
  | 38 => some (7, 11, 11)
  | 41 => some (7, 13, 13)
  | 44 => some (7, 14, 14)
  | 47 => some (7, 15, 15)
  | 50 => some (7, 16, 16)
  | 53 => some (7, 17, 17)
  | 56 => some (7, 18, 18)
  | 59 => some (7, 19, 19)
  | 62 => some (7, 22, 22)
  | 83 => some (7, 2, 2)
  | 153 => some (7, 12, 12)
  | 224 => some (7, 6, 6)
  | 262 => some (7, 20, 20)
  | 265 => some (7, 21, 21)
  | 272 => some (7, 23, 23)
  | 284 => some (7, 24, 24)
  | _ => none
theorem frX7_ok : FldOK RX7 frX7 := by
  intro k t j z h
  unfold frX7 at h
  split at h
  · cases h; exact ⟨_, rfl, rfl, by decide, mg 822 (by decide +kernel) rfl⟩
  · cases h; exact ⟨_, rfl, rfl, by decide, mg 823 (by decide +kernel) rfl⟩
  · cases h; exact ⟨_, rfl, rfl, by decide, mg 825 (by decide +kernel) rfl⟩
  · cases h; exact ⟨_, rfl, rfl, by decide, mg 826 (by decide +kernel) rfl⟩
  · cases h; exact ⟨_, rfl, rfl, by decide, mg 827 (by decide +kernel) rfl⟩
  · cases h; exact ⟨_, rfl, rfl, by decide, mg 829 (by decide +kernel) rfl⟩
  · cases h; exact ⟨_, rfl, rfl, by decide, mg 830 (by decide +kernel) rfl⟩
  · cases h; exact ⟨_, rfl, rfl, by decide, mg 831 (by decide +kernel) rfl⟩
  · cases h; exact ⟨_, rfl, rfl, by decide, mg 832 (by decide +kernel) rfl⟩
  · cases h; exact ⟨_, rfl, rfl, by decide, mg 833 (by decide +kernel) rfl⟩
  · cases h; exact ⟨_, rfl, rfl, by decide, mg 835 (by decide +kernel) rfl⟩
  · cases h; exact ⟨_, rfl, rfl, by decide, mg 836 (by decide +kernel) rfl⟩
  · cases h; exact ⟨_, rfl, rfl, by decide, mg 837 (by decide +kernel) rfl⟩
  · cases h; exact ⟨_, rfl, rfl, by decide, mg 838 (by decide +kernel) rfl⟩
  · cases h; exact ⟨_, rfl, rfl, by decide, mg 839 (by decide +kernel) rfl⟩
  · cases h; exact ⟨_, rfl, rfl, by decide, mg 840 (by decide +kernel) rfl⟩
  · cases h; exact ⟨_, rfl, rfl, by decide, mg 841 (by decide +kernel) rfl⟩
  · cases h; exact ⟨_, rfl, rfl, by decide, mg 844 (by decide +kernel) rfl⟩
  · cases h; exact ⟨_, rfl, rfl, by decide, mg 824 (by decide +kernel) rfl⟩
  · cases h; exact ⟨_, rfl, rfl, by decide, mg 834 (by decide +kernel) rfl⟩
  · cases h; exact ⟨_, rfl, rfl, by decide, mg 828 (by decide +kernel) rfl⟩
  · cases h; exact ⟨_, rfl, rfl, by decide, mg 842 (by decide +kernel) rfl⟩
  · cases h; exact ⟨_, rfl, rfl, by decide, mg 843 (by decide +kernel) rfl⟩
  · cases h; exact ⟨_, rfl, rfl, by decide, mg 845 (by decide +kernel) rfl⟩
  · cases h; exact ⟨_, rfl, rfl, by decide, mg 846 (by decide +kernel) rfl⟩
  · cases h
def kcL : Nat → Option Int
  | _ => none
def klL : Nat → Option Int64
  | 86 => some (4294967295)
  | _ => none
theorem cstL_ok : CstOK RL kcL klL := by
  refine ⟨fun k x h => ?_, fun k x h => ?_⟩
  · cases h
  · unfold klL at h
    split at h
    · cases h; exact mg 1262 (by decide +kernel) rfl
    · cases h
def kcX0 : Nat → Option Int
  | _ => none
def klX0 : Nat → Option Int64
  | _ => none
theorem cstX0_ok : CstOK RX0 kcX0 klX0 := by
  refine ⟨fun k x h => ?_, fun k x h => ?_⟩
  · cases h
  · cases h
def kcX1 : Nat → Option Int
  | _ => none
def klX1 : Nat → Option Int64
  | _ => none
theorem cstX1_ok : CstOK RX1 kcX1 klX1 := by
  refine ⟨fun k x h => ?_, fun k x h => ?_⟩
  · cases h
  · cases h
def kcX2 : Nat → Option Int
  | _ => none
def klX2 : Nat → Option Int64
  | _ => none
theorem cstX2_ok : CstOK RX2 kcX2 klX2 := by
  refine ⟨fun k x h => ?_, fun k x h => ?_⟩
  · cases h
  · cases h
def kcX3 : Nat → Option Int
  | _ => none
def klX3 : Nat → Option Int64
  | _ => none
theorem cstX3_ok : CstOK RX3 kcX3 klX3 := by
  refine ⟨fun k x h => ?_, fun k x h => ?_⟩
  · cases h
  · cases h
def kcX4 : Nat → Option Int
  | _ => none
def klX4 : Nat → Option Int64
  | _ => none
theorem cstX4_ok : CstOK RX4 kcX4 klX4 := by
  refine ⟨fun k x h => ?_, fun k x h => ?_⟩
  · cases h
  · cases h
def kcX5 : Nat → Option Int
  | _ => none
def klX5 : Nat → Option Int64
  | _ => none
theorem cstX5_ok : CstOK RX5 kcX5 klX5 := by
  refine ⟨fun k x h => ?_, fun k x h => ?_⟩
  · cases h
  · cases h
def kcX6 : Nat → Option Int
  | _ => none
def klX6 : Nat → Option Int64
  | 224 => some (255)
  | _ => none
theorem cstX6_ok : CstOK RX6 kcX6 klX6 := by
  refine ⟨fun k x h => ?_, fun k x h => ?_⟩
  · cases h
  · unfold klX6 at h
    split at h
    · cases h; exact mg 720 (by decide +kernel) rfl
    · cases h
def kcX7 : Nat → Option Int
  | 171 => some (1000000)
  | _ => none
def klX7 : Nat → Option Int64
  | 260 => some (255)
  | _ => none
theorem cstX7_ok : CstOK RX7 kcX7 klX7 := by
  refine ⟨fun k x h => ?_, fun k x h => ?_⟩
  · unfold kcX7 at h
    split at h
    · cases h; exact ⟨by constructor <;> decide, mg 1060 (by decide +kernel) rfl⟩
    · cases h
  · unfold klX7 at h
    split at h
    · cases h; exact mg 1197 (by decide +kernel) rfl
    · cases h
end
section
theorem fp_0_0 : fp 0 0 = some (33, 0) := rfl
theorem fp_0_1 : fp 0 1 = none := rfl
theorem iz_0_1 : isZ 0 1 = false := rfl
theorem fp_0_2 : fp 0 2 = none := rfl
theorem iz_0_2 : isZ 0 2 = false := rfl
theorem fp_1_0 : fp 1 0 = some (15, 0) := rfl
theorem fp_1_1 : fp 1 1 = some (16, 0) := rfl
theorem fp_1_2 : fp 1 2 = some (17, 0) := rfl
theorem fp_1_3 : fp 1 3 = some (18, 0) := rfl
theorem fp_1_4 : fp 1 4 = some (19, 0) := rfl
theorem fp_1_5 : fp 1 5 = some (20, 0) := rfl
theorem fp_1_6 : fp 1 6 = some (21, 0) := rfl
theorem fp_1_7 : fp 1 7 = some (22, 0) := rfl
theorem fp_1_8 : fp 1 8 = none := rfl
theorem iz_1_8 : isZ 1 8 = false := rfl
theorem fp_1_9 : fp 1 9 = none := rfl
theorem iz_1_9 : isZ 1 9 = false := rfl
theorem fp_1_10 : fp 1 10 = some (23, 0) := rfl
theorem fp_1_11 : fp 1 11 = none := rfl
theorem iz_1_11 : isZ 1 11 = false := rfl
theorem fp_1_12 : fp 1 12 = some (24, 0) := rfl
theorem fp_1_13 : fp 1 13 = some (25, 0) := rfl
theorem fp_1_14 : fp 1 14 = some (26, 0) := rfl
theorem fp_2_0 : fp 2 0 = some (36, 0) := rfl
theorem fp_2_1 : fp 2 1 = none := rfl
theorem iz_2_1 : isZ 2 1 = false := rfl
theorem fp_2_2 : fp 2 2 = none := rfl
theorem iz_2_2 : isZ 2 2 = false := rfl
theorem fp_2_3 : fp 2 3 = none := rfl
theorem iz_2_3 : isZ 2 3 = false := rfl
theorem fp_3_0 : fp 3 0 = some (37, 0) := rfl
theorem fp_3_1 : fp 3 1 = none := rfl
theorem iz_3_1 : isZ 3 1 = false := rfl
theorem fp_4_0 : fp 4 0 = some (1, 2) := rfl
theorem fp_4_1 : fp 4 1 = none := rfl
theorem iz_4_1 : isZ 4 1 = true := rfl
theorem fp_4_2 : fp 4 2 = none := rfl
theorem iz_4_2 : isZ 4 2 = false := rfl
theorem fp_4_3 : fp 4 3 = some (27, 0) := rfl
theorem fp_4_4 : fp 4 4 = some (28, 0) := rfl
theorem fp_4_5 : fp 4 5 = some (29, 0) := rfl
theorem fp_4_6 : fp 4 6 = some (30, 0) := rfl
theorem fp_4_7 : fp 4 7 = some (31, 0) := rfl
theorem fp_5_0 : fp 5 0 = none := rfl
theorem iz_5_0 : isZ 5 0 = false := rfl
theorem fp_5_1 : fp 5 1 = some (8, 0) := rfl
theorem fp_5_2 : fp 5 2 = some (9, 0) := rfl
theorem fp_5_3 : fp 5 3 = some (10, 0) := rfl
theorem fp_5_4 : fp 5 4 = some (11, 0) := rfl
theorem fp_5_5 : fp 5 5 = some (12, 0) := rfl
theorem fp_5_6 : fp 5 6 = some (13, 0) := rfl
theorem fp_5_7 : fp 5 7 = some (14, 0) := rfl
theorem fp_6_0 : fp 6 0 = some (5, 0) := rfl
theorem fp_6_1 : fp 6 1 = some (5, 1) := rfl
theorem fp_6_2 : fp 6 2 = some (0, 0) := rfl
theorem fp_6_3 : fp 6 3 = some (34, 0) := rfl
theorem fp_6_4 : fp 6 4 = some (35, 0) := rfl
theorem fp_6_5 : fp 6 5 = some (2, 0) := rfl
theorem fp_6_6 : fp 6 6 = some (1, 0) := rfl
theorem fp_6_7 : fp 6 7 = some (3, 0) := rfl
theorem fp_6_8 : fp 6 8 = none := rfl
theorem iz_6_8 : isZ 6 8 = true := rfl
theorem fp_6_9 : fp 6 9 = none := rfl
theorem iz_6_9 : isZ 6 9 = true := rfl
theorem fp_6_10 : fp 6 10 = some (1, 1) := rfl
theorem fp_6_11 : fp 6 11 = some (4, 0) := rfl
theorem fp_6_12 : fp 6 12 = some (4, 1) := rfl
theorem fp_6_13 : fp 6 13 = none := rfl
theorem iz_6_13 : isZ 6 13 = false := rfl
theorem fp_6_14 : fp 6 14 = none := rfl
theorem iz_6_14 : isZ 6 14 = false := rfl
theorem fp_6_15 : fp 6 15 = none := rfl
theorem iz_6_15 : isZ 6 15 = false := rfl
theorem fp_7_0 : fp 7 0 = some (38, 0) := rfl
theorem fp_7_1 : fp 7 1 = some (39, 0) := rfl
theorem fp_7_2 : fp 7 2 = none := rfl
theorem iz_7_2 : isZ 7 2 = false := rfl
theorem fp_7_3 : fp 7 3 = some (40, 0) := rfl
theorem fp_7_4 : fp 7 4 = some (41, 0) := rfl
theorem fp_7_5 : fp 7 5 = some (42, 0) := rfl
theorem fp_7_6 : fp 7 6 = none := rfl
theorem iz_7_6 : isZ 7 6 = false := rfl
theorem fp_7_7 : fp 7 7 = some (43, 0) := rfl
theorem fp_7_8 : fp 7 8 = some (44, 0) := rfl
theorem fp_7_9 : fp 7 9 = some (45, 0) := rfl
theorem fp_7_10 : fp 7 10 = some (46, 0) := rfl
theorem fp_7_11 : fp 7 11 = some (47, 0) := rfl
theorem fp_7_12 : fp 7 12 = none := rfl
theorem iz_7_12 : isZ 7 12 = false := rfl
theorem fp_7_13 : fp 7 13 = some (48, 0) := rfl
theorem fp_7_14 : fp 7 14 = some (49, 0) := rfl
theorem fp_7_15 : fp 7 15 = some (50, 0) := rfl
theorem fp_7_16 : fp 7 16 = some (51, 0) := rfl
theorem fp_7_17 : fp 7 17 = some (52, 0) := rfl
theorem fp_7_18 : fp 7 18 = some (53, 0) := rfl
theorem fp_7_19 : fp 7 19 = some (54, 0) := rfl
theorem fp_7_20 : fp 7 20 = none := rfl
theorem iz_7_20 : isZ 7 20 = false := rfl
theorem fp_7_21 : fp 7 21 = none := rfl
theorem iz_7_21 : isZ 7 21 = true := rfl
theorem fp_7_22 : fp 7 22 = some (55, 0) := rfl
theorem fp_7_23 : fp 7 23 = none := rfl
theorem iz_7_23 : isZ 7 23 = false := rfl
theorem fp_7_24 : fp 7 24 = none := rfl
theorem iz_7_24 : isZ 7 24 = false := rfl
theorem ak_8 : ak 8 = some (0, 4) := rfl
theorem ak_9 : ak 9 = some (0, 4) := rfl
theorem ak_10 : ak 10 = some (0, 4) := rfl
theorem ak_11 : ak 11 = some (0, 16) := rfl
theorem ak_12 : ak 12 = some (0, 16) := rfl
theorem ak_13 : ak 13 = some (0, 4) := rfl
theorem ak_14 : ak 14 = some (0, 16) := rfl
theorem ak_15 : ak 15 = some (0, 4) := rfl
theorem ak_16 : ak 16 = some (0, 16) := rfl
theorem ak_17 : ak 17 = some (0, 16) := rfl
theorem ak_18 : ak 18 = some (0, 16) := rfl
theorem ak_19 : ak 19 = some (0, 16) := rfl
theorem ak_20 : ak 20 = some (0, 16) := rfl
theorem ak_21 : ak 21 = some (0, 16) := rfl
theorem ak_22 : ak 22 = some (0, 16) := rfl
theorem ak_23 : ak 23 = some (0, 16) := rfl
theorem ak_24 : ak 24 = some (0, 4) := rfl
theorem ak_25 : ak 25 = some (0, 4) := rfl
theorem ak_26 : ak 26 = some (0, 4) := rfl
theorem ak_27 : ak 27 = some (0, 16) := rfl
theorem ak_28 : ak 28 = some (0, 16) := rfl
theorem ak_29 : ak 29 = some (0, 16) := rfl
theorem ak_30 : ak 30 = some (0, 16) := rfl
theorem ak_31 : ak 31 = some (4, 25) := rfl
theorem ak_32 : ak 32 = some (0, 16) := rfl
theorem ak_33 : ak 33 = some (3, 6) := rfl
theorem ak_34 : ak 34 = some (3, 2) := rfl
theorem ak_35 : ak 35 = some (2, 2) := rfl
theorem ak_36 : ak 36 = some (1, 80) := rfl
theorem ak_37 : ak 37 = some (0, 16) := rfl
theorem ak_38 : ak 38 = some (0, 65) := rfl
theorem ak_39 : ak 39 = some (0, 390) := rfl
theorem ak_40 : ak 40 = some (0, 130) := rfl
theorem ak_41 : ak 41 = some (2, 2) := rfl
theorem ak_42 : ak 42 = some (0, 80) := rfl
theorem ak_43 : ak 43 = some (0, 16) := rfl
theorem ak_44 : ak 44 = some (2, 16) := rfl
theorem ak_45 : ak 45 = some (0, 16) := rfl
theorem ak_46 : ak 46 = some (0, 16) := rfl
theorem ak_47 : ak 47 = some (0, 16) := rfl
theorem ak_48 : ak 48 = some (0, 384) := rfl
theorem ak_49 : ak 49 = some (0, 4) := rfl
theorem ak_50 : ak 50 = some (0, 4) := rfl
theorem ak_51 : ak 51 = some (0, 16) := rfl
theorem ak_52 : ak 52 = some (0, 16) := rfl
theorem ak_53 : ak 53 = some (0, 16) := rfl
theorem ak_54 : ak 54 = some (0, 16) := rfl
theorem ak_55 : ak 55 = some (0, 60) := rfl
theorem ak_56 : ak 56 = none := rfl
theorem el31 (i j : Nat) : el 31 i j = (32, 25 * i + j) := rfl
theorem el33 (i j : Nat) : el 33 i j = (5, 2 + j) := rfl
theorem el34 (i j : Nat) : el 34 i j = (5, 8 + j) := rfl
theorem fv0 : ((0 : Fin 4) : Nat) = 0 := rfl
theorem fv1 : ((1 : Fin 4) : Nat) = 1 := rfl
theorem fv2 : ((2 : Fin 4) : Nat) = 2 := rfl
theorem fv3 : ((3 : Fin 4) : Nat) = 3 := rfl
theorem nc2 : ((2 : Nat) : Int) = 2 := rfl
theorem nc4 : ((4 : Nat) : Int) = 4 := rfl
theorem nc6 : ((6 : Nat) : Int) = 6 := rfl
theorem nc16 : ((16 : Nat) : Int) = 16 := rfl
theorem nc25 : ((25 : Nat) : Int) = 25 := rfl
theorem nc60 : ((60 : Nat) : Int) = 60 := rfl
theorem nc65 : ((65 : Nat) : Int) = 65 := rfl
theorem nc80 : ((80 : Nat) : Int) = 80 := rfl
theorem nc130 : ((130 : Nat) : Int) = 130 := rfl
theorem nc384 : ((384 : Nat) : Int) = 384 := rfl
theorem nc390 : ((390 : Nat) : Int) = 390 := rfl
end
section
theorem inR_l {x : Int} (h1 : -2147483648 ≤ x) (h2 : x ≤ 2147483647) : inR x = True := eq_true ⟨h1, h2⟩
theorem Kr_int {K : Option Int → Mem → Prop} {x : Int} {σ : Mem} : Kr (some .int) K (some x) σ = K (some x) σ := by simp [Kr]
theorem Kr_bool {K : Option Int → Mem → Prop} {x : Int} {σ : Mem} : Kr (some .boolean) K (some x) σ = ((x = 0 ∨ x = 1) ∧ K (some x) σ) := by simp [Kr]
theorem Kr_void {K : Option Int → Mem → Prop} {σ : Mem} : Kr none K none σ = K none σ := by simp [Kr]
/-- the operation of the job j on the machine m, by the row of machines f, of n steps; none: -6 -/
def opF (f : Int → Int) (n j m : Int) : Int := if 0 < n ∧ f (4 * j) = m then 4 * j else if 1 < n ∧ f (4 * j + 1) = m then 4 * j + 1 else if 2 < n ∧ f (4 * j + 2) = m then 4 * j + 2 else if 3 < n ∧ f (4 * j + 3) = m then 4 * j + 3 else -6
def ca_X7_in : Nat → Option (Nat × Nat × Tr) := fun _ => none
theorem cao_X7_in (l : Launch) : ∀ k n' ci T', ca_X7_in k = some (n', ci, T') → ∃ nn, nn + 1 ≤ 0 ∧ Site l yX7_in.cls k n' ci nn T' := by
  intro k n' ci T' h
  cases h
def T_X7_in : Tr := fun a σ K => match a with
  | [.inl v, .inl lo, .inl hi] => K (some (if lo ≤ v ∧ v ≤ hi then 1 else 0)) σ
  | _ => False
set_option maxHeartbeats 4000000 in
set_option maxRecDepth 20000 in
theorem k_X7_in (l : Launch) : Ct l yX7_in cX7_in 3 (some .boolean) 0 T_X7_in := by
  refine mk_met (by decide +kernel) hCX7_in lCX7_in frX7_ok cstX7_ok (cao_X7_in l) ?_ ?_
  · intro a σ K h
    unfold T_X7_in at h
    split at h
    · simp [eL]
    · exact h.elim
  · intro a σ K ha hR h
    unfold T_X7_in at h
    split at h
    · rename_i v lo hi
      refine ⟨fun _ => none, 200, fun pc I L S σ' k h => (by cases h), ?_⟩
      simp only [wp, stp, drp, entL, eL, lget, lset, okst, cnd, swt, rcv, Kr_int, Kr_bool, Kr_void, List.length_cons, List.length_nil, List.replicate, List.append_nil, List.cons_append, List.nil_append, List.take_succ_cons, List.take_zero, List.drop_succ_cons, List.drop_zero, List.reverse_cons, List.reverse_nil, Option.map_some, Option.map_none, Option.toList_some, Option.toList_none, Nat.reduceAdd, Nat.reduceSub, Nat.reduceLT, Nat.reduceLeDiff, Nat.reduceEqDiff, ↓reduceIte, Nat.add_zero, Nat.zero_add, true_and, and_true, Nat.le_refl, reduceCtorEq, false_implies, true_implies, not_true_eq_false, not_false_eq_true, Int.reduceAdd, Int.reduceSub, Int.reduceMul, Int.reduceLE, Int.reduceLT, Int.reduceEq, Int.reduceNe, Int.reduceNeg, Int.reduceDiv, Int.reduceMod, Bool.false_eq_true, Int.le_refl, and_self, true_or, or_true, inR_l, fv0, fv1, fv2, fv3, nc2, nc4, nc6, nc16, nc25, nc60, nc65, nc80, nc130, nc384, nc390, fp_0_0, fp_0_1, fp_0_2, fp_1_0, fp_1_1, fp_1_2, fp_1_3, fp_1_4, fp_1_5, fp_1_6, fp_1_7, fp_1_8, fp_1_9, fp_1_10, fp_1_11, fp_1_12, fp_1_13, fp_1_14, fp_2_0, fp_2_1, fp_2_2, fp_2_3, fp_3_0, fp_3_1, fp_4_0, fp_4_1, fp_4_2, fp_4_3, fp_4_4, fp_4_5, fp_4_6, fp_4_7, fp_5_0, fp_5_1, fp_5_2, fp_5_3, fp_5_4, fp_5_5, fp_5_6, fp_5_7, fp_6_0, fp_6_1, fp_6_2, fp_6_3, fp_6_4, fp_6_5, fp_6_6, fp_6_7, fp_6_8, fp_6_9, fp_6_10, fp_6_11, fp_6_12, fp_6_13, fp_6_14, fp_6_15, fp_7_0, fp_7_1, fp_7_2, fp_7_3, fp_7_4, fp_7_5, fp_7_6, fp_7_7, fp_7_8, fp_7_9, fp_7_10, fp_7_11, fp_7_12, fp_7_13, fp_7_14, fp_7_15, fp_7_16, fp_7_17, fp_7_18, fp_7_19, fp_7_20, fp_7_21, fp_7_22, fp_7_23, fp_7_24, iz_0_1, iz_0_2, iz_1_8, iz_1_9, iz_1_11, iz_2_1, iz_2_2, iz_2_3, iz_3_1, iz_4_1, iz_4_2, iz_5_0, iz_6_8, iz_6_9, iz_6_13, iz_6_14, iz_6_15, iz_7_2, iz_7_6, iz_7_12, iz_7_20, iz_7_21, iz_7_23, iz_7_24, ak_8, ak_9, ak_10, ak_11, ak_12, ak_13, ak_14, ak_15, ak_16, ak_17, ak_18, ak_19, ak_20, ak_21, ak_22, ak_23, ak_24, ak_25, ak_26, ak_27, ak_28, ak_29, ak_30, ak_31, ak_32, ak_33, ak_34, ak_35, ak_36, ak_37, ak_38, ak_39, ak_40, ak_41, ak_42, ak_43, ak_44, ak_45, ak_46, ak_47, ak_48, ak_49, ak_50, ak_51, ak_52, ak_53, ak_54, ak_55, ak_56, el31, el33, el34, CX7_in, ca_X7_in, frX7, kcX7, klX7]
      grind (splits := 60) [inR]
    · exact h.elim
def ca_X7_greater : Nat → Option (Nat × Nat × Tr) := fun _ => none
theorem cao_X7_greater (l : Launch) : ∀ k n' ci T', ca_X7_greater k = some (n', ci, T') → ∃ nn, nn + 1 ≤ 0 ∧ Site l yX7_greater.cls k n' ci nn T' := by
  intro k n' ci T' h
  cases h
def T_X7_greater : Tr := fun a σ K => match a with
  | [.inl x, .inl y] => K (some (if y < x then x else y)) σ
  | _ => False
set_option maxHeartbeats 4000000 in
set_option maxRecDepth 20000 in
theorem k_X7_greater (l : Launch) : Ct l yX7_greater cX7_greater 2 (some .int) 0 T_X7_greater := by
  refine mk_met (by decide +kernel) hCX7_greater lCX7_greater frX7_ok cstX7_ok (cao_X7_greater l) ?_ ?_
  · intro a σ K h
    unfold T_X7_greater at h
    split at h
    · simp [eL]
    · exact h.elim
  · intro a σ K ha hR h
    unfold T_X7_greater at h
    split at h
    · rename_i x y
      refine ⟨fun _ => none, 200, fun pc I L S σ' k h => (by cases h), ?_⟩
      simp only [wp, stp, drp, entL, eL, lget, lset, okst, cnd, swt, rcv, Kr_int, Kr_bool, Kr_void, List.length_cons, List.length_nil, List.replicate, List.append_nil, List.cons_append, List.nil_append, List.take_succ_cons, List.take_zero, List.drop_succ_cons, List.drop_zero, List.reverse_cons, List.reverse_nil, Option.map_some, Option.map_none, Option.toList_some, Option.toList_none, Nat.reduceAdd, Nat.reduceSub, Nat.reduceLT, Nat.reduceLeDiff, Nat.reduceEqDiff, ↓reduceIte, Nat.add_zero, Nat.zero_add, true_and, and_true, Nat.le_refl, reduceCtorEq, false_implies, true_implies, not_true_eq_false, not_false_eq_true, Int.reduceAdd, Int.reduceSub, Int.reduceMul, Int.reduceLE, Int.reduceLT, Int.reduceEq, Int.reduceNe, Int.reduceNeg, Int.reduceDiv, Int.reduceMod, Bool.false_eq_true, Int.le_refl, and_self, true_or, or_true, inR_l, fv0, fv1, fv2, fv3, nc2, nc4, nc6, nc16, nc25, nc60, nc65, nc80, nc130, nc384, nc390, fp_0_0, fp_0_1, fp_0_2, fp_1_0, fp_1_1, fp_1_2, fp_1_3, fp_1_4, fp_1_5, fp_1_6, fp_1_7, fp_1_8, fp_1_9, fp_1_10, fp_1_11, fp_1_12, fp_1_13, fp_1_14, fp_2_0, fp_2_1, fp_2_2, fp_2_3, fp_3_0, fp_3_1, fp_4_0, fp_4_1, fp_4_2, fp_4_3, fp_4_4, fp_4_5, fp_4_6, fp_4_7, fp_5_0, fp_5_1, fp_5_2, fp_5_3, fp_5_4, fp_5_5, fp_5_6, fp_5_7, fp_6_0, fp_6_1, fp_6_2, fp_6_3, fp_6_4, fp_6_5, fp_6_6, fp_6_7, fp_6_8, fp_6_9, fp_6_10, fp_6_11, fp_6_12, fp_6_13, fp_6_14, fp_6_15, fp_7_0, fp_7_1, fp_7_2, fp_7_3, fp_7_4, fp_7_5, fp_7_6, fp_7_7, fp_7_8, fp_7_9, fp_7_10, fp_7_11, fp_7_12, fp_7_13, fp_7_14, fp_7_15, fp_7_16, fp_7_17, fp_7_18, fp_7_19, fp_7_20, fp_7_21, fp_7_22, fp_7_23, fp_7_24, iz_0_1, iz_0_2, iz_1_8, iz_1_9, iz_1_11, iz_2_1, iz_2_2, iz_2_3, iz_3_1, iz_4_1, iz_4_2, iz_5_0, iz_6_8, iz_6_9, iz_6_13, iz_6_14, iz_6_15, iz_7_2, iz_7_6, iz_7_12, iz_7_20, iz_7_21, iz_7_23, iz_7_24, ak_8, ak_9, ak_10, ak_11, ak_12, ak_13, ak_14, ak_15, ak_16, ak_17, ak_18, ak_19, ak_20, ak_21, ak_22, ak_23, ak_24, ak_25, ak_26, ak_27, ak_28, ak_29, ak_30, ak_31, ak_32, ak_33, ak_34, ak_35, ak_36, ak_37, ak_38, ak_39, ak_40, ak_41, ak_42, ak_43, ak_44, ak_45, ak_46, ak_47, ak_48, ak_49, ak_50, ak_51, ak_52, ak_53, ak_54, ak_55, ak_56, el31, el33, el34, CX7_greater, ca_X7_greater, frX7, kcX7, klX7]
      grind (splits := 60) [inR]
    · exact h.elim
def ca_X7_ofAJob : Nat → Option (Nat × Nat × Tr) := fun _ => none
theorem cao_X7_ofAJob (l : Launch) : ∀ k n' ci T', ca_X7_ofAJob k = some (n', ci, T') → ∃ nn, nn + 1 ≤ 0 ∧ Site l yX7_ofAJob.cls k n' ci nn T' := by
  intro k n' ci T' h
  cases h
def T_X7_ofAJob : Tr := fun a σ K => match a with
  | [.inr (.inl (7, 0)), .inl j, .inl w] => (0 ≤ j ∧ j < 4 ∧ 0 ≤ w ∧ w < 3) ∧ K (some (σ 38 0 (1 + 3 * j + w))) σ
  | _ => False
set_option maxHeartbeats 4000000 in
set_option maxRecDepth 20000 in
theorem k_X7_ofAJob (l : Launch) : Ct l yX7_ofAJob cX7_ofAJob 3 (some .int) 0 T_X7_ofAJob := by
  refine mk_met (by decide +kernel) hCX7_ofAJob lCX7_ofAJob frX7_ok cstX7_ok (cao_X7_ofAJob l) ?_ ?_
  · intro a σ K h
    unfold T_X7_ofAJob at h
    split at h
    · simp [eL]
    · exact h.elim
  · intro a σ K ha hR h
    unfold T_X7_ofAJob at h
    split at h
    · rename_i j w
      refine ⟨fun _ => none, 200, fun pc I L S σ' k h => (by cases h), ?_⟩
      simp only [wp, stp, drp, entL, eL, lget, lset, okst, cnd, swt, rcv, Kr_int, Kr_bool, Kr_void, List.length_cons, List.length_nil, List.replicate, List.append_nil, List.cons_append, List.nil_append, List.take_succ_cons, List.take_zero, List.drop_succ_cons, List.drop_zero, List.reverse_cons, List.reverse_nil, Option.map_some, Option.map_none, Option.toList_some, Option.toList_none, Nat.reduceAdd, Nat.reduceSub, Nat.reduceLT, Nat.reduceLeDiff, Nat.reduceEqDiff, ↓reduceIte, Nat.add_zero, Nat.zero_add, true_and, and_true, Nat.le_refl, reduceCtorEq, false_implies, true_implies, not_true_eq_false, not_false_eq_true, Int.reduceAdd, Int.reduceSub, Int.reduceMul, Int.reduceLE, Int.reduceLT, Int.reduceEq, Int.reduceNe, Int.reduceNeg, Int.reduceDiv, Int.reduceMod, Bool.false_eq_true, Int.le_refl, and_self, true_or, or_true, inR_l, fv0, fv1, fv2, fv3, nc2, nc4, nc6, nc16, nc25, nc60, nc65, nc80, nc130, nc384, nc390, fp_0_0, fp_0_1, fp_0_2, fp_1_0, fp_1_1, fp_1_2, fp_1_3, fp_1_4, fp_1_5, fp_1_6, fp_1_7, fp_1_8, fp_1_9, fp_1_10, fp_1_11, fp_1_12, fp_1_13, fp_1_14, fp_2_0, fp_2_1, fp_2_2, fp_2_3, fp_3_0, fp_3_1, fp_4_0, fp_4_1, fp_4_2, fp_4_3, fp_4_4, fp_4_5, fp_4_6, fp_4_7, fp_5_0, fp_5_1, fp_5_2, fp_5_3, fp_5_4, fp_5_5, fp_5_6, fp_5_7, fp_6_0, fp_6_1, fp_6_2, fp_6_3, fp_6_4, fp_6_5, fp_6_6, fp_6_7, fp_6_8, fp_6_9, fp_6_10, fp_6_11, fp_6_12, fp_6_13, fp_6_14, fp_6_15, fp_7_0, fp_7_1, fp_7_2, fp_7_3, fp_7_4, fp_7_5, fp_7_6, fp_7_7, fp_7_8, fp_7_9, fp_7_10, fp_7_11, fp_7_12, fp_7_13, fp_7_14, fp_7_15, fp_7_16, fp_7_17, fp_7_18, fp_7_19, fp_7_20, fp_7_21, fp_7_22, fp_7_23, fp_7_24, iz_0_1, iz_0_2, iz_1_8, iz_1_9, iz_1_11, iz_2_1, iz_2_2, iz_2_3, iz_3_1, iz_4_1, iz_4_2, iz_5_0, iz_6_8, iz_6_9, iz_6_13, iz_6_14, iz_6_15, iz_7_2, iz_7_6, iz_7_12, iz_7_20, iz_7_21, iz_7_23, iz_7_24, ak_8, ak_9, ak_10, ak_11, ak_12, ak_13, ak_14, ak_15, ak_16, ak_17, ak_18, ak_19, ak_20, ak_21, ak_22, ak_23, ak_24, ak_25, ak_26, ak_27, ak_28, ak_29, ak_30, ak_31, ak_32, ak_33, ak_34, ak_35, ak_36, ak_37, ak_38, ak_39, ak_40, ak_41, ak_42, ak_43, ak_44, ak_45, ak_46, ak_47, ak_48, ak_49, ak_50, ak_51, ak_52, ak_53, ak_54, ak_55, ak_56, el31, el33, el34, CX7_ofAJob, ca_X7_ofAJob, frX7, kcX7, klX7]
      grind (splits := 60) [inR]
    · exact h.elim
def ca_X7_isJob : Nat → Option (Nat × Nat × Tr) := fun _ => none
theorem cao_X7_isJob (l : Launch) : ∀ k n' ci T', ca_X7_isJob k = some (n', ci, T') → ∃ nn, nn + 1 ≤ 0 ∧ Site l yX7_isJob.cls k n' ci nn T' := by
  intro k n' ci T' h
  cases h
def T_X7_isJob : Tr := fun a σ K => match a with
  | [.inr (.inl (7, 0)), .inl j] => K (some (if 0 ≤ j ∧ j < σ 38 0 0 then 1 else 0)) σ
  | _ => False
set_option maxHeartbeats 4000000 in
set_option maxRecDepth 20000 in
theorem k_X7_isJob (l : Launch) : Ct l yX7_isJob cX7_isJob 2 (some .boolean) 0 T_X7_isJob := by
  refine mk_met (by decide +kernel) hCX7_isJob lCX7_isJob frX7_ok cstX7_ok (cao_X7_isJob l) ?_ ?_
  · intro a σ K h
    unfold T_X7_isJob at h
    split at h
    · simp [eL]
    · exact h.elim
  · intro a σ K ha hR h
    unfold T_X7_isJob at h
    split at h
    · rename_i j
      refine ⟨fun _ => none, 200, fun pc I L S σ' k h => (by cases h), ?_⟩
      simp only [wp, stp, drp, entL, eL, lget, lset, okst, cnd, swt, rcv, Kr_int, Kr_bool, Kr_void, List.length_cons, List.length_nil, List.replicate, List.append_nil, List.cons_append, List.nil_append, List.take_succ_cons, List.take_zero, List.drop_succ_cons, List.drop_zero, List.reverse_cons, List.reverse_nil, Option.map_some, Option.map_none, Option.toList_some, Option.toList_none, Nat.reduceAdd, Nat.reduceSub, Nat.reduceLT, Nat.reduceLeDiff, Nat.reduceEqDiff, ↓reduceIte, Nat.add_zero, Nat.zero_add, true_and, and_true, Nat.le_refl, reduceCtorEq, false_implies, true_implies, not_true_eq_false, not_false_eq_true, Int.reduceAdd, Int.reduceSub, Int.reduceMul, Int.reduceLE, Int.reduceLT, Int.reduceEq, Int.reduceNe, Int.reduceNeg, Int.reduceDiv, Int.reduceMod, Bool.false_eq_true, Int.le_refl, and_self, true_or, or_true, inR_l, fv0, fv1, fv2, fv3, nc2, nc4, nc6, nc16, nc25, nc60, nc65, nc80, nc130, nc384, nc390, fp_0_0, fp_0_1, fp_0_2, fp_1_0, fp_1_1, fp_1_2, fp_1_3, fp_1_4, fp_1_5, fp_1_6, fp_1_7, fp_1_8, fp_1_9, fp_1_10, fp_1_11, fp_1_12, fp_1_13, fp_1_14, fp_2_0, fp_2_1, fp_2_2, fp_2_3, fp_3_0, fp_3_1, fp_4_0, fp_4_1, fp_4_2, fp_4_3, fp_4_4, fp_4_5, fp_4_6, fp_4_7, fp_5_0, fp_5_1, fp_5_2, fp_5_3, fp_5_4, fp_5_5, fp_5_6, fp_5_7, fp_6_0, fp_6_1, fp_6_2, fp_6_3, fp_6_4, fp_6_5, fp_6_6, fp_6_7, fp_6_8, fp_6_9, fp_6_10, fp_6_11, fp_6_12, fp_6_13, fp_6_14, fp_6_15, fp_7_0, fp_7_1, fp_7_2, fp_7_3, fp_7_4, fp_7_5, fp_7_6, fp_7_7, fp_7_8, fp_7_9, fp_7_10, fp_7_11, fp_7_12, fp_7_13, fp_7_14, fp_7_15, fp_7_16, fp_7_17, fp_7_18, fp_7_19, fp_7_20, fp_7_21, fp_7_22, fp_7_23, fp_7_24, iz_0_1, iz_0_2, iz_1_8, iz_1_9, iz_1_11, iz_2_1, iz_2_2, iz_2_3, iz_3_1, iz_4_1, iz_4_2, iz_5_0, iz_6_8, iz_6_9, iz_6_13, iz_6_14, iz_6_15, iz_7_2, iz_7_6, iz_7_12, iz_7_20, iz_7_21, iz_7_23, iz_7_24, ak_8, ak_9, ak_10, ak_11, ak_12, ak_13, ak_14, ak_15, ak_16, ak_17, ak_18, ak_19, ak_20, ak_21, ak_22, ak_23, ak_24, ak_25, ak_26, ak_27, ak_28, ak_29, ak_30, ak_31, ak_32, ak_33, ak_34, ak_35, ak_36, ak_37, ak_38, ak_39, ak_40, ak_41, ak_42, ak_43, ak_44, ak_45, ak_46, ak_47, ak_48, ak_49, ak_50, ak_51, ak_52, ak_53, ak_54, ak_55, ak_56, el31, el33, el34, CX7_isJob, ca_X7_isJob, frX7, kcX7, klX7]
      grind (splits := 60) [inR]
    · exact h.elim
def ca_X7_isOperation : Nat → Option (Nat × Nat × Tr)
  | 65 => some (2, 7, T_X7_isJob)
  | 69 => some (3, 7, T_X7_ofAJob)
  | _ => none
theorem cao_X7_isOperation (l : Launch) : ∀ k n' ci T', ca_X7_isOperation k = some (n', ci, T') → ∃ nn, nn + 1 ≤ 1 ∧ Site l yX7_isOperation.cls k n' ci nn T' := by
  intro k n' ci T' h
  unfold ca_X7_isOperation at h
  split at h
  · cases h; exact ⟨0, by decide, _, _, _, _, k_X7_isJob l, Or.inl ⟨_, rfl, FX7_isJob, KRX7_65⟩⟩
  · cases h; exact ⟨0, by decide, _, _, _, _, k_X7_ofAJob l, Or.inl ⟨_, rfl, FX7_ofAJob, KRX7_69⟩⟩
  · cases h
def T_X7_isOperation : Tr := fun a σ K => match a with
  | [.inr (.inl (7, 0)), .inl x] => σ 38 0 0 ≤ 4 ∧ K (some (if 0 ≤ x ∧ x / 4 < σ 38 0 0 ∧ x % 4 < σ 38 0 (1 + 3 * (x / 4) + 2) then 1 else 0)) σ
  | _ => False
set_option maxHeartbeats 4000000 in
set_option maxRecDepth 20000 in
theorem k_X7_isOperation (l : Launch) : Ct l yX7_isOperation cX7_isOperation 2 (some .boolean) 1 T_X7_isOperation := by
  refine mk_met (by decide +kernel) hCX7_isOperation lCX7_isOperation frX7_ok cstX7_ok (cao_X7_isOperation l) ?_ ?_
  · intro a σ K h
    unfold T_X7_isOperation at h
    split at h
    · simp [eL]
    · exact h.elim
  · intro a σ K ha hR h
    unfold T_X7_isOperation at h
    split at h
    · rename_i x
      refine ⟨fun _ => none, 200, fun pc I L S σ' k h => (by cases h), ?_⟩
      simp only [wp, stp, drp, entL, eL, lget, lset, okst, cnd, swt, rcv, Kr_int, Kr_bool, Kr_void, List.length_cons, List.length_nil, List.replicate, List.append_nil, List.cons_append, List.nil_append, List.take_succ_cons, List.take_zero, List.drop_succ_cons, List.drop_zero, List.reverse_cons, List.reverse_nil, Option.map_some, Option.map_none, Option.toList_some, Option.toList_none, Nat.reduceAdd, Nat.reduceSub, Nat.reduceLT, Nat.reduceLeDiff, Nat.reduceEqDiff, ↓reduceIte, Nat.add_zero, Nat.zero_add, true_and, and_true, Nat.le_refl, reduceCtorEq, false_implies, true_implies, not_true_eq_false, not_false_eq_true, Int.reduceAdd, Int.reduceSub, Int.reduceMul, Int.reduceLE, Int.reduceLT, Int.reduceEq, Int.reduceNe, Int.reduceNeg, Int.reduceDiv, Int.reduceMod, Bool.false_eq_true, Int.le_refl, and_self, true_or, or_true, inR_l, fv0, fv1, fv2, fv3, nc2, nc4, nc6, nc16, nc25, nc60, nc65, nc80, nc130, nc384, nc390, fp_0_0, fp_0_1, fp_0_2, fp_1_0, fp_1_1, fp_1_2, fp_1_3, fp_1_4, fp_1_5, fp_1_6, fp_1_7, fp_1_8, fp_1_9, fp_1_10, fp_1_11, fp_1_12, fp_1_13, fp_1_14, fp_2_0, fp_2_1, fp_2_2, fp_2_3, fp_3_0, fp_3_1, fp_4_0, fp_4_1, fp_4_2, fp_4_3, fp_4_4, fp_4_5, fp_4_6, fp_4_7, fp_5_0, fp_5_1, fp_5_2, fp_5_3, fp_5_4, fp_5_5, fp_5_6, fp_5_7, fp_6_0, fp_6_1, fp_6_2, fp_6_3, fp_6_4, fp_6_5, fp_6_6, fp_6_7, fp_6_8, fp_6_9, fp_6_10, fp_6_11, fp_6_12, fp_6_13, fp_6_14, fp_6_15, fp_7_0, fp_7_1, fp_7_2, fp_7_3, fp_7_4, fp_7_5, fp_7_6, fp_7_7, fp_7_8, fp_7_9, fp_7_10, fp_7_11, fp_7_12, fp_7_13, fp_7_14, fp_7_15, fp_7_16, fp_7_17, fp_7_18, fp_7_19, fp_7_20, fp_7_21, fp_7_22, fp_7_23, fp_7_24, iz_0_1, iz_0_2, iz_1_8, iz_1_9, iz_1_11, iz_2_1, iz_2_2, iz_2_3, iz_3_1, iz_4_1, iz_4_2, iz_5_0, iz_6_8, iz_6_9, iz_6_13, iz_6_14, iz_6_15, iz_7_2, iz_7_6, iz_7_12, iz_7_20, iz_7_21, iz_7_23, iz_7_24, ak_8, ak_9, ak_10, ak_11, ak_12, ak_13, ak_14, ak_15, ak_16, ak_17, ak_18, ak_19, ak_20, ak_21, ak_22, ak_23, ak_24, ak_25, ak_26, ak_27, ak_28, ak_29, ak_30, ak_31, ak_32, ak_33, ak_34, ak_35, ak_36, ak_37, ak_38, ak_39, ak_40, ak_41, ak_42, ak_43, ak_44, ak_45, ak_46, ak_47, ak_48, ak_49, ak_50, ak_51, ak_52, ak_53, ak_54, ak_55, ak_56, el31, el33, el34, CX7_isOperation, ca_X7_isOperation, frX7, kcX7, klX7, T_X7_isJob, T_X7_ofAJob]
      grind (splits := 60) [inR]
    · exact h.elim
def ca_X7_machineOf : Nat → Option (Nat × Nat × Tr) := fun _ => none
theorem cao_X7_machineOf (l : Launch) : ∀ k n' ci T', ca_X7_machineOf k = some (n', ci, T') → ∃ nn, nn + 1 ≤ 0 ∧ Site l yX7_machineOf.cls k n' ci nn T' := by
  intro k n' ci T' h
  cases h
def T_X7_machineOf : Tr := fun a σ K => match a with
  | [.inr (.inl (7, 0)), .inl x] => (0 ≤ x ∧ x < 16) ∧ K (some (σ 38 0 (13 + 2 * x))) σ
  | _ => False
set_option maxHeartbeats 4000000 in
set_option maxRecDepth 20000 in
theorem k_X7_machineOf (l : Launch) : Ct l yX7_machineOf cX7_machineOf 2 (some .int) 0 T_X7_machineOf := by
  refine mk_met (by decide +kernel) hCX7_machineOf lCX7_machineOf frX7_ok cstX7_ok (cao_X7_machineOf l) ?_ ?_
  · intro a σ K h
    unfold T_X7_machineOf at h
    split at h
    · simp [eL]
    · exact h.elim
  · intro a σ K ha hR h
    unfold T_X7_machineOf at h
    split at h
    · rename_i x
      refine ⟨fun _ => none, 200, fun pc I L S σ' k h => (by cases h), ?_⟩
      simp only [wp, stp, drp, entL, eL, lget, lset, okst, cnd, swt, rcv, Kr_int, Kr_bool, Kr_void, List.length_cons, List.length_nil, List.replicate, List.append_nil, List.cons_append, List.nil_append, List.take_succ_cons, List.take_zero, List.drop_succ_cons, List.drop_zero, List.reverse_cons, List.reverse_nil, Option.map_some, Option.map_none, Option.toList_some, Option.toList_none, Nat.reduceAdd, Nat.reduceSub, Nat.reduceLT, Nat.reduceLeDiff, Nat.reduceEqDiff, ↓reduceIte, Nat.add_zero, Nat.zero_add, true_and, and_true, Nat.le_refl, reduceCtorEq, false_implies, true_implies, not_true_eq_false, not_false_eq_true, Int.reduceAdd, Int.reduceSub, Int.reduceMul, Int.reduceLE, Int.reduceLT, Int.reduceEq, Int.reduceNe, Int.reduceNeg, Int.reduceDiv, Int.reduceMod, Bool.false_eq_true, Int.le_refl, and_self, true_or, or_true, inR_l, fv0, fv1, fv2, fv3, nc2, nc4, nc6, nc16, nc25, nc60, nc65, nc80, nc130, nc384, nc390, fp_0_0, fp_0_1, fp_0_2, fp_1_0, fp_1_1, fp_1_2, fp_1_3, fp_1_4, fp_1_5, fp_1_6, fp_1_7, fp_1_8, fp_1_9, fp_1_10, fp_1_11, fp_1_12, fp_1_13, fp_1_14, fp_2_0, fp_2_1, fp_2_2, fp_2_3, fp_3_0, fp_3_1, fp_4_0, fp_4_1, fp_4_2, fp_4_3, fp_4_4, fp_4_5, fp_4_6, fp_4_7, fp_5_0, fp_5_1, fp_5_2, fp_5_3, fp_5_4, fp_5_5, fp_5_6, fp_5_7, fp_6_0, fp_6_1, fp_6_2, fp_6_3, fp_6_4, fp_6_5, fp_6_6, fp_6_7, fp_6_8, fp_6_9, fp_6_10, fp_6_11, fp_6_12, fp_6_13, fp_6_14, fp_6_15, fp_7_0, fp_7_1, fp_7_2, fp_7_3, fp_7_4, fp_7_5, fp_7_6, fp_7_7, fp_7_8, fp_7_9, fp_7_10, fp_7_11, fp_7_12, fp_7_13, fp_7_14, fp_7_15, fp_7_16, fp_7_17, fp_7_18, fp_7_19, fp_7_20, fp_7_21, fp_7_22, fp_7_23, fp_7_24, iz_0_1, iz_0_2, iz_1_8, iz_1_9, iz_1_11, iz_2_1, iz_2_2, iz_2_3, iz_3_1, iz_4_1, iz_4_2, iz_5_0, iz_6_8, iz_6_9, iz_6_13, iz_6_14, iz_6_15, iz_7_2, iz_7_6, iz_7_12, iz_7_20, iz_7_21, iz_7_23, iz_7_24, ak_8, ak_9, ak_10, ak_11, ak_12, ak_13, ak_14, ak_15, ak_16, ak_17, ak_18, ak_19, ak_20, ak_21, ak_22, ak_23, ak_24, ak_25, ak_26, ak_27, ak_28, ak_29, ak_30, ak_31, ak_32, ak_33, ak_34, ak_35, ak_36, ak_37, ak_38, ak_39, ak_40, ak_41, ak_42, ak_43, ak_44, ak_45, ak_46, ak_47, ak_48, ak_49, ak_50, ak_51, ak_52, ak_53, ak_54, ak_55, ak_56, el31, el33, el34, CX7_machineOf, ca_X7_machineOf, frX7, kcX7, klX7]
      grind (splits := 60) [inR]
    · exact h.elim
def ca_X7_lasts : Nat → Option (Nat × Nat × Tr) := fun _ => none
theorem cao_X7_lasts (l : Launch) : ∀ k n' ci T', ca_X7_lasts k = some (n', ci, T') → ∃ nn, nn + 1 ≤ 0 ∧ Site l yX7_lasts.cls k n' ci nn T' := by
  intro k n' ci T' h
  cases h
def T_X7_lasts : Tr := fun a σ K => match a with
  | [.inr (.inl (7, 0)), .inl x] => (0 ≤ x ∧ x < 16) ∧ K (some (σ 38 0 (14 + 2 * x))) σ
  | _ => False
set_option maxHeartbeats 4000000 in
set_option maxRecDepth 20000 in
theorem k_X7_lasts (l : Launch) : Ct l yX7_lasts cX7_lasts 2 (some .int) 0 T_X7_lasts := by
  refine mk_met (by decide +kernel) hCX7_lasts lCX7_lasts frX7_ok cstX7_ok (cao_X7_lasts l) ?_ ?_
  · intro a σ K h
    unfold T_X7_lasts at h
    split at h
    · simp [eL]
    · exact h.elim
  · intro a σ K ha hR h
    unfold T_X7_lasts at h
    split at h
    · rename_i x
      refine ⟨fun _ => none, 200, fun pc I L S σ' k h => (by cases h), ?_⟩
      simp only [wp, stp, drp, entL, eL, lget, lset, okst, cnd, swt, rcv, Kr_int, Kr_bool, Kr_void, List.length_cons, List.length_nil, List.replicate, List.append_nil, List.cons_append, List.nil_append, List.take_succ_cons, List.take_zero, List.drop_succ_cons, List.drop_zero, List.reverse_cons, List.reverse_nil, Option.map_some, Option.map_none, Option.toList_some, Option.toList_none, Nat.reduceAdd, Nat.reduceSub, Nat.reduceLT, Nat.reduceLeDiff, Nat.reduceEqDiff, ↓reduceIte, Nat.add_zero, Nat.zero_add, true_and, and_true, Nat.le_refl, reduceCtorEq, false_implies, true_implies, not_true_eq_false, not_false_eq_true, Int.reduceAdd, Int.reduceSub, Int.reduceMul, Int.reduceLE, Int.reduceLT, Int.reduceEq, Int.reduceNe, Int.reduceNeg, Int.reduceDiv, Int.reduceMod, Bool.false_eq_true, Int.le_refl, and_self, true_or, or_true, inR_l, fv0, fv1, fv2, fv3, nc2, nc4, nc6, nc16, nc25, nc60, nc65, nc80, nc130, nc384, nc390, fp_0_0, fp_0_1, fp_0_2, fp_1_0, fp_1_1, fp_1_2, fp_1_3, fp_1_4, fp_1_5, fp_1_6, fp_1_7, fp_1_8, fp_1_9, fp_1_10, fp_1_11, fp_1_12, fp_1_13, fp_1_14, fp_2_0, fp_2_1, fp_2_2, fp_2_3, fp_3_0, fp_3_1, fp_4_0, fp_4_1, fp_4_2, fp_4_3, fp_4_4, fp_4_5, fp_4_6, fp_4_7, fp_5_0, fp_5_1, fp_5_2, fp_5_3, fp_5_4, fp_5_5, fp_5_6, fp_5_7, fp_6_0, fp_6_1, fp_6_2, fp_6_3, fp_6_4, fp_6_5, fp_6_6, fp_6_7, fp_6_8, fp_6_9, fp_6_10, fp_6_11, fp_6_12, fp_6_13, fp_6_14, fp_6_15, fp_7_0, fp_7_1, fp_7_2, fp_7_3, fp_7_4, fp_7_5, fp_7_6, fp_7_7, fp_7_8, fp_7_9, fp_7_10, fp_7_11, fp_7_12, fp_7_13, fp_7_14, fp_7_15, fp_7_16, fp_7_17, fp_7_18, fp_7_19, fp_7_20, fp_7_21, fp_7_22, fp_7_23, fp_7_24, iz_0_1, iz_0_2, iz_1_8, iz_1_9, iz_1_11, iz_2_1, iz_2_2, iz_2_3, iz_3_1, iz_4_1, iz_4_2, iz_5_0, iz_6_8, iz_6_9, iz_6_13, iz_6_14, iz_6_15, iz_7_2, iz_7_6, iz_7_12, iz_7_20, iz_7_21, iz_7_23, iz_7_24, ak_8, ak_9, ak_10, ak_11, ak_12, ak_13, ak_14, ak_15, ak_16, ak_17, ak_18, ak_19, ak_20, ak_21, ak_22, ak_23, ak_24, ak_25, ak_26, ak_27, ak_28, ak_29, ak_30, ak_31, ak_32, ak_33, ak_34, ak_35, ak_36, ak_37, ak_38, ak_39, ak_40, ak_41, ak_42, ak_43, ak_44, ak_45, ak_46, ak_47, ak_48, ak_49, ak_50, ak_51, ak_52, ak_53, ak_54, ak_55, ak_56, el31, el33, el34, CX7_lasts, ca_X7_lasts, frX7, kcX7, klX7]
      grind (splits := 60) [inR]
    · exact h.elim
def ca_X7_jobAt : Nat → Option (Nat × Nat × Tr) := fun _ => none
theorem cao_X7_jobAt (l : Launch) : ∀ k n' ci T', ca_X7_jobAt k = some (n', ci, T') → ∃ nn, nn + 1 ≤ 0 ∧ Site l yX7_jobAt.cls k n' ci nn T' := by
  intro k n' ci T' h
  cases h
def T_X7_jobAt : Tr := fun a σ K => match a with
  | [.inr (.inl (7, 0)), .inl m, .inl x] => (0 ≤ m ∧ m < 4 ∧ 0 ≤ x ∧ x < 4) ∧ K (some (σ 38 0 (49 + 4 * m + x))) σ
  | _ => False
set_option maxHeartbeats 4000000 in
set_option maxRecDepth 20000 in
theorem k_X7_jobAt (l : Launch) : Ct l yX7_jobAt cX7_jobAt 3 (some .int) 0 T_X7_jobAt := by
  refine mk_met (by decide +kernel) hCX7_jobAt lCX7_jobAt frX7_ok cstX7_ok (cao_X7_jobAt l) ?_ ?_
  · intro a σ K h
    unfold T_X7_jobAt at h
    split at h
    · simp [eL]
    · exact h.elim
  · intro a σ K ha hR h
    unfold T_X7_jobAt at h
    split at h
    · rename_i m x
      refine ⟨fun _ => none, 200, fun pc I L S σ' k h => (by cases h), ?_⟩
      simp only [wp, stp, drp, entL, eL, lget, lset, okst, cnd, swt, rcv, Kr_int, Kr_bool, Kr_void, List.length_cons, List.length_nil, List.replicate, List.append_nil, List.cons_append, List.nil_append, List.take_succ_cons, List.take_zero, List.drop_succ_cons, List.drop_zero, List.reverse_cons, List.reverse_nil, Option.map_some, Option.map_none, Option.toList_some, Option.toList_none, Nat.reduceAdd, Nat.reduceSub, Nat.reduceLT, Nat.reduceLeDiff, Nat.reduceEqDiff, ↓reduceIte, Nat.add_zero, Nat.zero_add, true_and, and_true, Nat.le_refl, reduceCtorEq, false_implies, true_implies, not_true_eq_false, not_false_eq_true, Int.reduceAdd, Int.reduceSub, Int.reduceMul, Int.reduceLE, Int.reduceLT, Int.reduceEq, Int.reduceNe, Int.reduceNeg, Int.reduceDiv, Int.reduceMod, Bool.false_eq_true, Int.le_refl, and_self, true_or, or_true, inR_l, fv0, fv1, fv2, fv3, nc2, nc4, nc6, nc16, nc25, nc60, nc65, nc80, nc130, nc384, nc390, fp_0_0, fp_0_1, fp_0_2, fp_1_0, fp_1_1, fp_1_2, fp_1_3, fp_1_4, fp_1_5, fp_1_6, fp_1_7, fp_1_8, fp_1_9, fp_1_10, fp_1_11, fp_1_12, fp_1_13, fp_1_14, fp_2_0, fp_2_1, fp_2_2, fp_2_3, fp_3_0, fp_3_1, fp_4_0, fp_4_1, fp_4_2, fp_4_3, fp_4_4, fp_4_5, fp_4_6, fp_4_7, fp_5_0, fp_5_1, fp_5_2, fp_5_3, fp_5_4, fp_5_5, fp_5_6, fp_5_7, fp_6_0, fp_6_1, fp_6_2, fp_6_3, fp_6_4, fp_6_5, fp_6_6, fp_6_7, fp_6_8, fp_6_9, fp_6_10, fp_6_11, fp_6_12, fp_6_13, fp_6_14, fp_6_15, fp_7_0, fp_7_1, fp_7_2, fp_7_3, fp_7_4, fp_7_5, fp_7_6, fp_7_7, fp_7_8, fp_7_9, fp_7_10, fp_7_11, fp_7_12, fp_7_13, fp_7_14, fp_7_15, fp_7_16, fp_7_17, fp_7_18, fp_7_19, fp_7_20, fp_7_21, fp_7_22, fp_7_23, fp_7_24, iz_0_1, iz_0_2, iz_1_8, iz_1_9, iz_1_11, iz_2_1, iz_2_2, iz_2_3, iz_3_1, iz_4_1, iz_4_2, iz_5_0, iz_6_8, iz_6_9, iz_6_13, iz_6_14, iz_6_15, iz_7_2, iz_7_6, iz_7_12, iz_7_20, iz_7_21, iz_7_23, iz_7_24, ak_8, ak_9, ak_10, ak_11, ak_12, ak_13, ak_14, ak_15, ak_16, ak_17, ak_18, ak_19, ak_20, ak_21, ak_22, ak_23, ak_24, ak_25, ak_26, ak_27, ak_28, ak_29, ak_30, ak_31, ak_32, ak_33, ak_34, ak_35, ak_36, ak_37, ak_38, ak_39, ak_40, ak_41, ak_42, ak_43, ak_44, ak_45, ak_46, ak_47, ak_48, ak_49, ak_50, ak_51, ak_52, ak_53, ak_54, ak_55, ak_56, el31, el33, el34, CX7_jobAt, ca_X7_jobAt, frX7, kcX7, klX7]
      grind (splits := 60) [inR]
    · exact h.elim
def ca_X7_beforeOnRoute : Nat → Option (Nat × Nat × Tr) := fun _ => none
theorem cao_X7_beforeOnRoute (l : Launch) : ∀ k n' ci T', ca_X7_beforeOnRoute k = some (n', ci, T') → ∃ nn, nn + 1 ≤ 0 ∧ Site l yX7_beforeOnRoute.cls k n' ci nn T' := by
  intro k n' ci T' h
  cases h
def T_X7_beforeOnRoute : Tr := fun a σ K => match a with
  | [.inr (.inl (7, 0)), .inl x] => (0 ≤ x ∧ x < 16) ∧ K (some (if x % 4 = 0 then -6 else x - 1)) σ
  | _ => False
set_option maxHeartbeats 4000000 in
set_option maxRecDepth 20000 in
theorem k_X7_beforeOnRoute (l : Launch) : Ct l yX7_beforeOnRoute cX7_beforeOnRoute 2 (some .int) 0 T_X7_beforeOnRoute := by
  refine mk_met (by decide +kernel) hCX7_beforeOnRoute lCX7_beforeOnRoute frX7_ok cstX7_ok (cao_X7_beforeOnRoute l) ?_ ?_
  · intro a σ K h
    unfold T_X7_beforeOnRoute at h
    split at h
    · simp [eL]
    · exact h.elim
  · intro a σ K ha hR h
    unfold T_X7_beforeOnRoute at h
    split at h
    · rename_i x
      refine ⟨fun _ => none, 200, fun pc I L S σ' k h => (by cases h), ?_⟩
      simp only [wp, stp, drp, entL, eL, lget, lset, okst, cnd, swt, rcv, Kr_int, Kr_bool, Kr_void, List.length_cons, List.length_nil, List.replicate, List.append_nil, List.cons_append, List.nil_append, List.take_succ_cons, List.take_zero, List.drop_succ_cons, List.drop_zero, List.reverse_cons, List.reverse_nil, Option.map_some, Option.map_none, Option.toList_some, Option.toList_none, Nat.reduceAdd, Nat.reduceSub, Nat.reduceLT, Nat.reduceLeDiff, Nat.reduceEqDiff, ↓reduceIte, Nat.add_zero, Nat.zero_add, true_and, and_true, Nat.le_refl, reduceCtorEq, false_implies, true_implies, not_true_eq_false, not_false_eq_true, Int.reduceAdd, Int.reduceSub, Int.reduceMul, Int.reduceLE, Int.reduceLT, Int.reduceEq, Int.reduceNe, Int.reduceNeg, Int.reduceDiv, Int.reduceMod, Bool.false_eq_true, Int.le_refl, and_self, true_or, or_true, inR_l, fv0, fv1, fv2, fv3, nc2, nc4, nc6, nc16, nc25, nc60, nc65, nc80, nc130, nc384, nc390, fp_0_0, fp_0_1, fp_0_2, fp_1_0, fp_1_1, fp_1_2, fp_1_3, fp_1_4, fp_1_5, fp_1_6, fp_1_7, fp_1_8, fp_1_9, fp_1_10, fp_1_11, fp_1_12, fp_1_13, fp_1_14, fp_2_0, fp_2_1, fp_2_2, fp_2_3, fp_3_0, fp_3_1, fp_4_0, fp_4_1, fp_4_2, fp_4_3, fp_4_4, fp_4_5, fp_4_6, fp_4_7, fp_5_0, fp_5_1, fp_5_2, fp_5_3, fp_5_4, fp_5_5, fp_5_6, fp_5_7, fp_6_0, fp_6_1, fp_6_2, fp_6_3, fp_6_4, fp_6_5, fp_6_6, fp_6_7, fp_6_8, fp_6_9, fp_6_10, fp_6_11, fp_6_12, fp_6_13, fp_6_14, fp_6_15, fp_7_0, fp_7_1, fp_7_2, fp_7_3, fp_7_4, fp_7_5, fp_7_6, fp_7_7, fp_7_8, fp_7_9, fp_7_10, fp_7_11, fp_7_12, fp_7_13, fp_7_14, fp_7_15, fp_7_16, fp_7_17, fp_7_18, fp_7_19, fp_7_20, fp_7_21, fp_7_22, fp_7_23, fp_7_24, iz_0_1, iz_0_2, iz_1_8, iz_1_9, iz_1_11, iz_2_1, iz_2_2, iz_2_3, iz_3_1, iz_4_1, iz_4_2, iz_5_0, iz_6_8, iz_6_9, iz_6_13, iz_6_14, iz_6_15, iz_7_2, iz_7_6, iz_7_12, iz_7_20, iz_7_21, iz_7_23, iz_7_24, ak_8, ak_9, ak_10, ak_11, ak_12, ak_13, ak_14, ak_15, ak_16, ak_17, ak_18, ak_19, ak_20, ak_21, ak_22, ak_23, ak_24, ak_25, ak_26, ak_27, ak_28, ak_29, ak_30, ak_31, ak_32, ak_33, ak_34, ak_35, ak_36, ak_37, ak_38, ak_39, ak_40, ak_41, ak_42, ak_43, ak_44, ak_45, ak_46, ak_47, ak_48, ak_49, ak_50, ak_51, ak_52, ak_53, ak_54, ak_55, ak_56, el31, el33, el34, CX7_beforeOnRoute, ca_X7_beforeOnRoute, frX7, kcX7, klX7]
      grind (splits := 60) [inR]
    · exact h.elim
def ca_X7_behindOnRoute : Nat → Option (Nat × Nat × Tr)
  | 69 => some (3, 7, T_X7_ofAJob)
  | _ => none
theorem cao_X7_behindOnRoute (l : Launch) : ∀ k n' ci T', ca_X7_behindOnRoute k = some (n', ci, T') → ∃ nn, nn + 1 ≤ 1 ∧ Site l yX7_behindOnRoute.cls k n' ci nn T' := by
  intro k n' ci T' h
  unfold ca_X7_behindOnRoute at h
  split at h
  · cases h; exact ⟨0, by decide, _, _, _, _, k_X7_ofAJob l, Or.inl ⟨_, rfl, FX7_ofAJob, KRX7_69⟩⟩
  · cases h
def T_X7_behindOnRoute : Tr := fun a σ K => match a with
  | [.inr (.inl (7, 0)), .inl x] => (0 ≤ x ∧ x < 16) ∧ K (some (if x % 4 + 1 < σ 38 0 (1 + 3 * (x / 4) + 2) then x + 1 else -6)) σ
  | _ => False
set_option maxHeartbeats 4000000 in
set_option maxRecDepth 20000 in
theorem k_X7_behindOnRoute (l : Launch) : Ct l yX7_behindOnRoute cX7_behindOnRoute 2 (some .int) 1 T_X7_behindOnRoute := by
  refine mk_met (by decide +kernel) hCX7_behindOnRoute lCX7_behindOnRoute frX7_ok cstX7_ok (cao_X7_behindOnRoute l) ?_ ?_
  · intro a σ K h
    unfold T_X7_behindOnRoute at h
    split at h
    · simp [eL]
    · exact h.elim
  · intro a σ K ha hR h
    unfold T_X7_behindOnRoute at h
    split at h
    · rename_i x
      refine ⟨fun _ => none, 200, fun pc I L S σ' k h => (by cases h), ?_⟩
      simp only [wp, stp, drp, entL, eL, lget, lset, okst, cnd, swt, rcv, Kr_int, Kr_bool, Kr_void, List.length_cons, List.length_nil, List.replicate, List.append_nil, List.cons_append, List.nil_append, List.take_succ_cons, List.take_zero, List.drop_succ_cons, List.drop_zero, List.reverse_cons, List.reverse_nil, Option.map_some, Option.map_none, Option.toList_some, Option.toList_none, Nat.reduceAdd, Nat.reduceSub, Nat.reduceLT, Nat.reduceLeDiff, Nat.reduceEqDiff, ↓reduceIte, Nat.add_zero, Nat.zero_add, true_and, and_true, Nat.le_refl, reduceCtorEq, false_implies, true_implies, not_true_eq_false, not_false_eq_true, Int.reduceAdd, Int.reduceSub, Int.reduceMul, Int.reduceLE, Int.reduceLT, Int.reduceEq, Int.reduceNe, Int.reduceNeg, Int.reduceDiv, Int.reduceMod, Bool.false_eq_true, Int.le_refl, and_self, true_or, or_true, inR_l, fv0, fv1, fv2, fv3, nc2, nc4, nc6, nc16, nc25, nc60, nc65, nc80, nc130, nc384, nc390, fp_0_0, fp_0_1, fp_0_2, fp_1_0, fp_1_1, fp_1_2, fp_1_3, fp_1_4, fp_1_5, fp_1_6, fp_1_7, fp_1_8, fp_1_9, fp_1_10, fp_1_11, fp_1_12, fp_1_13, fp_1_14, fp_2_0, fp_2_1, fp_2_2, fp_2_3, fp_3_0, fp_3_1, fp_4_0, fp_4_1, fp_4_2, fp_4_3, fp_4_4, fp_4_5, fp_4_6, fp_4_7, fp_5_0, fp_5_1, fp_5_2, fp_5_3, fp_5_4, fp_5_5, fp_5_6, fp_5_7, fp_6_0, fp_6_1, fp_6_2, fp_6_3, fp_6_4, fp_6_5, fp_6_6, fp_6_7, fp_6_8, fp_6_9, fp_6_10, fp_6_11, fp_6_12, fp_6_13, fp_6_14, fp_6_15, fp_7_0, fp_7_1, fp_7_2, fp_7_3, fp_7_4, fp_7_5, fp_7_6, fp_7_7, fp_7_8, fp_7_9, fp_7_10, fp_7_11, fp_7_12, fp_7_13, fp_7_14, fp_7_15, fp_7_16, fp_7_17, fp_7_18, fp_7_19, fp_7_20, fp_7_21, fp_7_22, fp_7_23, fp_7_24, iz_0_1, iz_0_2, iz_1_8, iz_1_9, iz_1_11, iz_2_1, iz_2_2, iz_2_3, iz_3_1, iz_4_1, iz_4_2, iz_5_0, iz_6_8, iz_6_9, iz_6_13, iz_6_14, iz_6_15, iz_7_2, iz_7_6, iz_7_12, iz_7_20, iz_7_21, iz_7_23, iz_7_24, ak_8, ak_9, ak_10, ak_11, ak_12, ak_13, ak_14, ak_15, ak_16, ak_17, ak_18, ak_19, ak_20, ak_21, ak_22, ak_23, ak_24, ak_25, ak_26, ak_27, ak_28, ak_29, ak_30, ak_31, ak_32, ak_33, ak_34, ak_35, ak_36, ak_37, ak_38, ak_39, ak_40, ak_41, ak_42, ak_43, ak_44, ak_45, ak_46, ak_47, ak_48, ak_49, ak_50, ak_51, ak_52, ak_53, ak_54, ak_55, ak_56, el31, el33, el34, CX7_behindOnRoute, ca_X7_behindOnRoute, frX7, kcX7, klX7, T_X7_ofAJob]
      grind (splits := 60) [inR]
    · exact h.elim
def ca_X7_addJob : Nat → Option (Nat × Nat × Tr) := fun _ => none
theorem cao_X7_addJob (l : Launch) : ∀ k n' ci T', ca_X7_addJob k = some (n', ci, T') → ∃ nn, nn + 1 ≤ 0 ∧ Site l yX7_addJob.cls k n' ci nn T' := by
  intro k n' ci T' h
  cases h
def T_X7_addJob : Tr := fun a σ K => match a with
  | [.inr (.inl (7, 0)), .inl r, .inl d] => (0 ≤ σ 38 0 0 ∧ σ 38 0 0 < 4) ∧ K none (up (up (up (up σ 38 0 0 (σ 38 0 0 + 1)) 38 0 (1 + 3 * σ 38 0 0) r) 38 0 (1 + 3 * σ 38 0 0 + 1) d) 38 0 (1 + 3 * σ 38 0 0 + 2) 0)
  | _ => False
set_option maxHeartbeats 4000000 in
set_option maxRecDepth 20000 in
theorem k_X7_addJob (l : Launch) : Ct l yX7_addJob cX7_addJob 4 none 0 T_X7_addJob := by
  refine mk_met (by decide +kernel) hCX7_addJob lCX7_addJob frX7_ok cstX7_ok (cao_X7_addJob l) ?_ ?_
  · intro a σ K h
    unfold T_X7_addJob at h
    split at h
    · simp [eL]
    · exact h.elim
  · intro a σ K ha hR h
    unfold T_X7_addJob at h
    split at h
    · rename_i r d
      refine ⟨fun _ => none, 200, fun pc I L S σ' k h => (by cases h), ?_⟩
      simp only [wp, stp, drp, entL, eL, lget, lset, okst, cnd, swt, rcv, Kr_int, Kr_bool, Kr_void, List.length_cons, List.length_nil, List.replicate, List.append_nil, List.cons_append, List.nil_append, List.take_succ_cons, List.take_zero, List.drop_succ_cons, List.drop_zero, List.reverse_cons, List.reverse_nil, Option.map_some, Option.map_none, Option.toList_some, Option.toList_none, Nat.reduceAdd, Nat.reduceSub, Nat.reduceLT, Nat.reduceLeDiff, Nat.reduceEqDiff, ↓reduceIte, Nat.add_zero, Nat.zero_add, true_and, and_true, Nat.le_refl, reduceCtorEq, false_implies, true_implies, not_true_eq_false, not_false_eq_true, Int.reduceAdd, Int.reduceSub, Int.reduceMul, Int.reduceLE, Int.reduceLT, Int.reduceEq, Int.reduceNe, Int.reduceNeg, Int.reduceDiv, Int.reduceMod, Bool.false_eq_true, Int.le_refl, and_self, true_or, or_true, inR_l, fv0, fv1, fv2, fv3, nc2, nc4, nc6, nc16, nc25, nc60, nc65, nc80, nc130, nc384, nc390, fp_0_0, fp_0_1, fp_0_2, fp_1_0, fp_1_1, fp_1_2, fp_1_3, fp_1_4, fp_1_5, fp_1_6, fp_1_7, fp_1_8, fp_1_9, fp_1_10, fp_1_11, fp_1_12, fp_1_13, fp_1_14, fp_2_0, fp_2_1, fp_2_2, fp_2_3, fp_3_0, fp_3_1, fp_4_0, fp_4_1, fp_4_2, fp_4_3, fp_4_4, fp_4_5, fp_4_6, fp_4_7, fp_5_0, fp_5_1, fp_5_2, fp_5_3, fp_5_4, fp_5_5, fp_5_6, fp_5_7, fp_6_0, fp_6_1, fp_6_2, fp_6_3, fp_6_4, fp_6_5, fp_6_6, fp_6_7, fp_6_8, fp_6_9, fp_6_10, fp_6_11, fp_6_12, fp_6_13, fp_6_14, fp_6_15, fp_7_0, fp_7_1, fp_7_2, fp_7_3, fp_7_4, fp_7_5, fp_7_6, fp_7_7, fp_7_8, fp_7_9, fp_7_10, fp_7_11, fp_7_12, fp_7_13, fp_7_14, fp_7_15, fp_7_16, fp_7_17, fp_7_18, fp_7_19, fp_7_20, fp_7_21, fp_7_22, fp_7_23, fp_7_24, iz_0_1, iz_0_2, iz_1_8, iz_1_9, iz_1_11, iz_2_1, iz_2_2, iz_2_3, iz_3_1, iz_4_1, iz_4_2, iz_5_0, iz_6_8, iz_6_9, iz_6_13, iz_6_14, iz_6_15, iz_7_2, iz_7_6, iz_7_12, iz_7_20, iz_7_21, iz_7_23, iz_7_24, ak_8, ak_9, ak_10, ak_11, ak_12, ak_13, ak_14, ak_15, ak_16, ak_17, ak_18, ak_19, ak_20, ak_21, ak_22, ak_23, ak_24, ak_25, ak_26, ak_27, ak_28, ak_29, ak_30, ak_31, ak_32, ak_33, ak_34, ak_35, ak_36, ak_37, ak_38, ak_39, ak_40, ak_41, ak_42, ak_43, ak_44, ak_45, ak_46, ak_47, ak_48, ak_49, ak_50, ak_51, ak_52, ak_53, ak_54, ak_55, ak_56, el31, el33, el34, CX7_addJob, ca_X7_addJob, frX7, kcX7, klX7]
      grind (splits := 60) [inR, up]
    · exact h.elim
def ca_X7_endOf : Nat → Option (Nat × Nat × Tr)
  | 105 => some (2, 7, T_X7_lasts)
  | _ => none
theorem cao_X7_endOf (l : Launch) : ∀ k n' ci T', ca_X7_endOf k = some (n', ci, T') → ∃ nn, nn + 1 ≤ 1 ∧ Site l yX7_endOf.cls k n' ci nn T' := by
  intro k n' ci T' h
  unfold ca_X7_endOf at h
  split at h
  · cases h; exact ⟨0, by decide, _, _, _, _, k_X7_lasts l, Or.inl ⟨_, rfl, FX7_lasts, KRX7_105⟩⟩
  · cases h
def T_X7_endOf : Tr := fun a σ K => match a with
  | [.inr (.inl (7, 0)), .inl x] => (x < 16 ∧ (0 ≤ x → inR (σ 45 0 x + σ 38 0 (14 + 2 * x)))) ∧ K (some (if x < 0 then 0 else σ 45 0 x + σ 38 0 (14 + 2 * x))) σ
  | _ => False
set_option maxHeartbeats 4000000 in
set_option maxRecDepth 20000 in
theorem k_X7_endOf (l : Launch) : Ct l yX7_endOf cX7_endOf 2 (some .int) 1 T_X7_endOf := by
  refine mk_met (by decide +kernel) hCX7_endOf lCX7_endOf frX7_ok cstX7_ok (cao_X7_endOf l) ?_ ?_
  · intro a σ K h
    unfold T_X7_endOf at h
    split at h
    · simp [eL]
    · exact h.elim
  · intro a σ K ha hR h
    unfold T_X7_endOf at h
    split at h
    · rename_i x
      refine ⟨fun _ => none, 200, fun pc I L S σ' k h => (by cases h), ?_⟩
      simp only [wp, stp, drp, entL, eL, lget, lset, okst, cnd, swt, rcv, Kr_int, Kr_bool, Kr_void, List.length_cons, List.length_nil, List.replicate, List.append_nil, List.cons_append, List.nil_append, List.take_succ_cons, List.take_zero, List.drop_succ_cons, List.drop_zero, List.reverse_cons, List.reverse_nil, Option.map_some, Option.map_none, Option.toList_some, Option.toList_none, Nat.reduceAdd, Nat.reduceSub, Nat.reduceLT, Nat.reduceLeDiff, Nat.reduceEqDiff, ↓reduceIte, Nat.add_zero, Nat.zero_add, true_and, and_true, Nat.le_refl, reduceCtorEq, false_implies, true_implies, not_true_eq_false, not_false_eq_true, Int.reduceAdd, Int.reduceSub, Int.reduceMul, Int.reduceLE, Int.reduceLT, Int.reduceEq, Int.reduceNe, Int.reduceNeg, Int.reduceDiv, Int.reduceMod, Bool.false_eq_true, Int.le_refl, and_self, true_or, or_true, inR_l, fv0, fv1, fv2, fv3, nc2, nc4, nc6, nc16, nc25, nc60, nc65, nc80, nc130, nc384, nc390, fp_0_0, fp_0_1, fp_0_2, fp_1_0, fp_1_1, fp_1_2, fp_1_3, fp_1_4, fp_1_5, fp_1_6, fp_1_7, fp_1_8, fp_1_9, fp_1_10, fp_1_11, fp_1_12, fp_1_13, fp_1_14, fp_2_0, fp_2_1, fp_2_2, fp_2_3, fp_3_0, fp_3_1, fp_4_0, fp_4_1, fp_4_2, fp_4_3, fp_4_4, fp_4_5, fp_4_6, fp_4_7, fp_5_0, fp_5_1, fp_5_2, fp_5_3, fp_5_4, fp_5_5, fp_5_6, fp_5_7, fp_6_0, fp_6_1, fp_6_2, fp_6_3, fp_6_4, fp_6_5, fp_6_6, fp_6_7, fp_6_8, fp_6_9, fp_6_10, fp_6_11, fp_6_12, fp_6_13, fp_6_14, fp_6_15, fp_7_0, fp_7_1, fp_7_2, fp_7_3, fp_7_4, fp_7_5, fp_7_6, fp_7_7, fp_7_8, fp_7_9, fp_7_10, fp_7_11, fp_7_12, fp_7_13, fp_7_14, fp_7_15, fp_7_16, fp_7_17, fp_7_18, fp_7_19, fp_7_20, fp_7_21, fp_7_22, fp_7_23, fp_7_24, iz_0_1, iz_0_2, iz_1_8, iz_1_9, iz_1_11, iz_2_1, iz_2_2, iz_2_3, iz_3_1, iz_4_1, iz_4_2, iz_5_0, iz_6_8, iz_6_9, iz_6_13, iz_6_14, iz_6_15, iz_7_2, iz_7_6, iz_7_12, iz_7_20, iz_7_21, iz_7_23, iz_7_24, ak_8, ak_9, ak_10, ak_11, ak_12, ak_13, ak_14, ak_15, ak_16, ak_17, ak_18, ak_19, ak_20, ak_21, ak_22, ak_23, ak_24, ak_25, ak_26, ak_27, ak_28, ak_29, ak_30, ak_31, ak_32, ak_33, ak_34, ak_35, ak_36, ak_37, ak_38, ak_39, ak_40, ak_41, ak_42, ak_43, ak_44, ak_45, ak_46, ak_47, ak_48, ak_49, ak_50, ak_51, ak_52, ak_53, ak_54, ak_55, ak_56, el31, el33, el34, CX7_endOf, ca_X7_endOf, frX7, kcX7, klX7, T_X7_lasts]
      grind (splits := 60) [inR]
    · exact h.elim
def ca_X7_withTail : Nat → Option (Nat × Nat × Tr)
  | 105 => some (2, 7, T_X7_lasts)
  | _ => none
theorem cao_X7_withTail (l : Launch) : ∀ k n' ci T', ca_X7_withTail k = some (n', ci, T') → ∃ nn, nn + 1 ≤ 1 ∧ Site l yX7_withTail.cls k n' ci nn T' := by
  intro k n' ci T' h
  unfold ca_X7_withTail at h
  split at h
  · cases h; exact ⟨0, by decide, _, _, _, _, k_X7_lasts l, Or.inl ⟨_, rfl, FX7_lasts, KRX7_105⟩⟩
  · cases h
def T_X7_withTail : Tr := fun a σ K => match a with
  | [.inr (.inl (7, 0)), .inl x] => (x < 16 ∧ (0 ≤ x → inR (σ 38 0 (14 + 2 * x) + σ 46 0 x))) ∧ K (some (if x < 0 then 0 else σ 38 0 (14 + 2 * x) + σ 46 0 x)) σ
  | _ => False
set_option maxHeartbeats 4000000 in
set_option maxRecDepth 20000 in
theorem k_X7_withTail (l : Launch) : Ct l yX7_withTail cX7_withTail 2 (some .int) 1 T_X7_withTail := by
  refine mk_met (by decide +kernel) hCX7_withTail lCX7_withTail frX7_ok cstX7_ok (cao_X7_withTail l) ?_ ?_
  · intro a σ K h
    unfold T_X7_withTail at h
    split at h
    · simp [eL]
    · exact h.elim
  · intro a σ K ha hR h
    unfold T_X7_withTail at h
    split at h
    · rename_i x
      refine ⟨fun _ => none, 200, fun pc I L S σ' k h => (by cases h), ?_⟩
      simp only [wp, stp, drp, entL, eL, lget, lset, okst, cnd, swt, rcv, Kr_int, Kr_bool, Kr_void, List.length_cons, List.length_nil, List.replicate, List.append_nil, List.cons_append, List.nil_append, List.take_succ_cons, List.take_zero, List.drop_succ_cons, List.drop_zero, List.reverse_cons, List.reverse_nil, Option.map_some, Option.map_none, Option.toList_some, Option.toList_none, Nat.reduceAdd, Nat.reduceSub, Nat.reduceLT, Nat.reduceLeDiff, Nat.reduceEqDiff, ↓reduceIte, Nat.add_zero, Nat.zero_add, true_and, and_true, Nat.le_refl, reduceCtorEq, false_implies, true_implies, not_true_eq_false, not_false_eq_true, Int.reduceAdd, Int.reduceSub, Int.reduceMul, Int.reduceLE, Int.reduceLT, Int.reduceEq, Int.reduceNe, Int.reduceNeg, Int.reduceDiv, Int.reduceMod, Bool.false_eq_true, Int.le_refl, and_self, true_or, or_true, inR_l, fv0, fv1, fv2, fv3, nc2, nc4, nc6, nc16, nc25, nc60, nc65, nc80, nc130, nc384, nc390, fp_0_0, fp_0_1, fp_0_2, fp_1_0, fp_1_1, fp_1_2, fp_1_3, fp_1_4, fp_1_5, fp_1_6, fp_1_7, fp_1_8, fp_1_9, fp_1_10, fp_1_11, fp_1_12, fp_1_13, fp_1_14, fp_2_0, fp_2_1, fp_2_2, fp_2_3, fp_3_0, fp_3_1, fp_4_0, fp_4_1, fp_4_2, fp_4_3, fp_4_4, fp_4_5, fp_4_6, fp_4_7, fp_5_0, fp_5_1, fp_5_2, fp_5_3, fp_5_4, fp_5_5, fp_5_6, fp_5_7, fp_6_0, fp_6_1, fp_6_2, fp_6_3, fp_6_4, fp_6_5, fp_6_6, fp_6_7, fp_6_8, fp_6_9, fp_6_10, fp_6_11, fp_6_12, fp_6_13, fp_6_14, fp_6_15, fp_7_0, fp_7_1, fp_7_2, fp_7_3, fp_7_4, fp_7_5, fp_7_6, fp_7_7, fp_7_8, fp_7_9, fp_7_10, fp_7_11, fp_7_12, fp_7_13, fp_7_14, fp_7_15, fp_7_16, fp_7_17, fp_7_18, fp_7_19, fp_7_20, fp_7_21, fp_7_22, fp_7_23, fp_7_24, iz_0_1, iz_0_2, iz_1_8, iz_1_9, iz_1_11, iz_2_1, iz_2_2, iz_2_3, iz_3_1, iz_4_1, iz_4_2, iz_5_0, iz_6_8, iz_6_9, iz_6_13, iz_6_14, iz_6_15, iz_7_2, iz_7_6, iz_7_12, iz_7_20, iz_7_21, iz_7_23, iz_7_24, ak_8, ak_9, ak_10, ak_11, ak_12, ak_13, ak_14, ak_15, ak_16, ak_17, ak_18, ak_19, ak_20, ak_21, ak_22, ak_23, ak_24, ak_25, ak_26, ak_27, ak_28, ak_29, ak_30, ak_31, ak_32, ak_33, ak_34, ak_35, ak_36, ak_37, ak_38, ak_39, ak_40, ak_41, ak_42, ak_43, ak_44, ak_45, ak_46, ak_47, ak_48, ak_49, ak_50, ak_51, ak_52, ak_53, ak_54, ak_55, ak_56, el31, el33, el34, CX7_withTail, ca_X7_withTail, frX7, kcX7, klX7, T_X7_lasts]
      grind (splits := 60) [inR]
    · exact h.elim
def ca_X7_throughOf : Nat → Option (Nat × Nat × Tr)
  | 105 => some (2, 7, T_X7_lasts)
  | _ => none
theorem cao_X7_throughOf (l : Launch) : ∀ k n' ci T', ca_X7_throughOf k = some (n', ci, T') → ∃ nn, nn + 1 ≤ 1 ∧ Site l yX7_throughOf.cls k n' ci nn T' := by
  intro k n' ci T' h
  unfold ca_X7_throughOf at h
  split at h
  · cases h; exact ⟨0, by decide, _, _, _, _, k_X7_lasts l, Or.inl ⟨_, rfl, FX7_lasts, KRX7_105⟩⟩
  · cases h
def T_X7_throughOf : Tr := fun a σ K => match a with
  | [.inr (.inl (7, 0)), .inl x] => (0 ≤ x ∧ x < 16 ∧ inR (σ 45 0 x + σ 38 0 (14 + 2 * x)) ∧ inR (σ 45 0 x + σ 38 0 (14 + 2 * x) + σ 46 0 x)) ∧ K (some (σ 45 0 x + σ 38 0 (14 + 2 * x) + σ 46 0 x)) σ
  | _ => False
set_option maxHeartbeats 4000000 in
set_option maxRecDepth 20000 in
theorem k_X7_throughOf (l : Launch) : Ct l yX7_throughOf cX7_throughOf 2 (some .int) 1 T_X7_throughOf := by
  refine mk_met (by decide +kernel) hCX7_throughOf lCX7_throughOf frX7_ok cstX7_ok (cao_X7_throughOf l) ?_ ?_
  · intro a σ K h
    unfold T_X7_throughOf at h
    split at h
    · simp [eL]
    · exact h.elim
  · intro a σ K ha hR h
    unfold T_X7_throughOf at h
    split at h
    · rename_i x
      refine ⟨fun _ => none, 200, fun pc I L S σ' k h => (by cases h), ?_⟩
      simp only [wp, stp, drp, entL, eL, lget, lset, okst, cnd, swt, rcv, Kr_int, Kr_bool, Kr_void, List.length_cons, List.length_nil, List.replicate, List.append_nil, List.cons_append, List.nil_append, List.take_succ_cons, List.take_zero, List.drop_succ_cons, List.drop_zero, List.reverse_cons, List.reverse_nil, Option.map_some, Option.map_none, Option.toList_some, Option.toList_none, Nat.reduceAdd, Nat.reduceSub, Nat.reduceLT, Nat.reduceLeDiff, Nat.reduceEqDiff, ↓reduceIte, Nat.add_zero, Nat.zero_add, true_and, and_true, Nat.le_refl, reduceCtorEq, false_implies, true_implies, not_true_eq_false, not_false_eq_true, Int.reduceAdd, Int.reduceSub, Int.reduceMul, Int.reduceLE, Int.reduceLT, Int.reduceEq, Int.reduceNe, Int.reduceNeg, Int.reduceDiv, Int.reduceMod, Bool.false_eq_true, Int.le_refl, and_self, true_or, or_true, inR_l, fv0, fv1, fv2, fv3, nc2, nc4, nc6, nc16, nc25, nc60, nc65, nc80, nc130, nc384, nc390, fp_0_0, fp_0_1, fp_0_2, fp_1_0, fp_1_1, fp_1_2, fp_1_3, fp_1_4, fp_1_5, fp_1_6, fp_1_7, fp_1_8, fp_1_9, fp_1_10, fp_1_11, fp_1_12, fp_1_13, fp_1_14, fp_2_0, fp_2_1, fp_2_2, fp_2_3, fp_3_0, fp_3_1, fp_4_0, fp_4_1, fp_4_2, fp_4_3, fp_4_4, fp_4_5, fp_4_6, fp_4_7, fp_5_0, fp_5_1, fp_5_2, fp_5_3, fp_5_4, fp_5_5, fp_5_6, fp_5_7, fp_6_0, fp_6_1, fp_6_2, fp_6_3, fp_6_4, fp_6_5, fp_6_6, fp_6_7, fp_6_8, fp_6_9, fp_6_10, fp_6_11, fp_6_12, fp_6_13, fp_6_14, fp_6_15, fp_7_0, fp_7_1, fp_7_2, fp_7_3, fp_7_4, fp_7_5, fp_7_6, fp_7_7, fp_7_8, fp_7_9, fp_7_10, fp_7_11, fp_7_12, fp_7_13, fp_7_14, fp_7_15, fp_7_16, fp_7_17, fp_7_18, fp_7_19, fp_7_20, fp_7_21, fp_7_22, fp_7_23, fp_7_24, iz_0_1, iz_0_2, iz_1_8, iz_1_9, iz_1_11, iz_2_1, iz_2_2, iz_2_3, iz_3_1, iz_4_1, iz_4_2, iz_5_0, iz_6_8, iz_6_9, iz_6_13, iz_6_14, iz_6_15, iz_7_2, iz_7_6, iz_7_12, iz_7_20, iz_7_21, iz_7_23, iz_7_24, ak_8, ak_9, ak_10, ak_11, ak_12, ak_13, ak_14, ak_15, ak_16, ak_17, ak_18, ak_19, ak_20, ak_21, ak_22, ak_23, ak_24, ak_25, ak_26, ak_27, ak_28, ak_29, ak_30, ak_31, ak_32, ak_33, ak_34, ak_35, ak_36, ak_37, ak_38, ak_39, ak_40, ak_41, ak_42, ak_43, ak_44, ak_45, ak_46, ak_47, ak_48, ak_49, ak_50, ak_51, ak_52, ak_53, ak_54, ak_55, ak_56, el31, el33, el34, CX7_throughOf, ca_X7_throughOf, frX7, kcX7, klX7, T_X7_lasts]
      grind (splits := 60) [inR]
    · exact h.elim
def ca_X7_exchange : Nat → Option (Nat × Nat × Tr) := fun _ => none
theorem cao_X7_exchange (l : Launch) : ∀ k n' ci T', ca_X7_exchange k = some (n', ci, T') → ∃ nn, nn + 1 ≤ 0 ∧ Site l yX7_exchange.cls k n' ci nn T' := by
  intro k n' ci T' h
  cases h
def T_X7_exchange : Tr := fun a σ K => match a with
  | [.inr (.inl (7, 0)), .inl m, .inl x] => (0 ≤ m ∧ m < 4 ∧ 0 ≤ x ∧ x < 3) ∧ K none (up (up σ 38 0 (49 + 4 * m + x) (σ 38 0 (49 + 4 * m + x + 1))) 38 0 (49 + 4 * m + x + 1) (σ 38 0 (49 + 4 * m + x)))
  | _ => False
set_option maxHeartbeats 4000000 in
set_option maxRecDepth 20000 in
theorem k_X7_exchange (l : Launch) : Ct l yX7_exchange cX7_exchange 5 none 0 T_X7_exchange := by
  refine mk_met (by decide +kernel) hCX7_exchange lCX7_exchange frX7_ok cstX7_ok (cao_X7_exchange l) ?_ ?_
  · intro a σ K h
    unfold T_X7_exchange at h
    split at h
    · simp [eL]
    · exact h.elim
  · intro a σ K ha hR h
    unfold T_X7_exchange at h
    split at h
    · rename_i m x
      refine ⟨fun _ => none, 200, fun pc I L S σ' k h => (by cases h), ?_⟩
      simp only [wp, stp, drp, entL, eL, lget, lset, okst, cnd, swt, rcv, Kr_int, Kr_bool, Kr_void, List.length_cons, List.length_nil, List.replicate, List.append_nil, List.cons_append, List.nil_append, List.take_succ_cons, List.take_zero, List.drop_succ_cons, List.drop_zero, List.reverse_cons, List.reverse_nil, Option.map_some, Option.map_none, Option.toList_some, Option.toList_none, Nat.reduceAdd, Nat.reduceSub, Nat.reduceLT, Nat.reduceLeDiff, Nat.reduceEqDiff, ↓reduceIte, Nat.add_zero, Nat.zero_add, true_and, and_true, Nat.le_refl, reduceCtorEq, false_implies, true_implies, not_true_eq_false, not_false_eq_true, Int.reduceAdd, Int.reduceSub, Int.reduceMul, Int.reduceLE, Int.reduceLT, Int.reduceEq, Int.reduceNe, Int.reduceNeg, Int.reduceDiv, Int.reduceMod, Bool.false_eq_true, Int.le_refl, and_self, true_or, or_true, inR_l, fv0, fv1, fv2, fv3, nc2, nc4, nc6, nc16, nc25, nc60, nc65, nc80, nc130, nc384, nc390, fp_0_0, fp_0_1, fp_0_2, fp_1_0, fp_1_1, fp_1_2, fp_1_3, fp_1_4, fp_1_5, fp_1_6, fp_1_7, fp_1_8, fp_1_9, fp_1_10, fp_1_11, fp_1_12, fp_1_13, fp_1_14, fp_2_0, fp_2_1, fp_2_2, fp_2_3, fp_3_0, fp_3_1, fp_4_0, fp_4_1, fp_4_2, fp_4_3, fp_4_4, fp_4_5, fp_4_6, fp_4_7, fp_5_0, fp_5_1, fp_5_2, fp_5_3, fp_5_4, fp_5_5, fp_5_6, fp_5_7, fp_6_0, fp_6_1, fp_6_2, fp_6_3, fp_6_4, fp_6_5, fp_6_6, fp_6_7, fp_6_8, fp_6_9, fp_6_10, fp_6_11, fp_6_12, fp_6_13, fp_6_14, fp_6_15, fp_7_0, fp_7_1, fp_7_2, fp_7_3, fp_7_4, fp_7_5, fp_7_6, fp_7_7, fp_7_8, fp_7_9, fp_7_10, fp_7_11, fp_7_12, fp_7_13, fp_7_14, fp_7_15, fp_7_16, fp_7_17, fp_7_18, fp_7_19, fp_7_20, fp_7_21, fp_7_22, fp_7_23, fp_7_24, iz_0_1, iz_0_2, iz_1_8, iz_1_9, iz_1_11, iz_2_1, iz_2_2, iz_2_3, iz_3_1, iz_4_1, iz_4_2, iz_5_0, iz_6_8, iz_6_9, iz_6_13, iz_6_14, iz_6_15, iz_7_2, iz_7_6, iz_7_12, iz_7_20, iz_7_21, iz_7_23, iz_7_24, ak_8, ak_9, ak_10, ak_11, ak_12, ak_13, ak_14, ak_15, ak_16, ak_17, ak_18, ak_19, ak_20, ak_21, ak_22, ak_23, ak_24, ak_25, ak_26, ak_27, ak_28, ak_29, ak_30, ak_31, ak_32, ak_33, ak_34, ak_35, ak_36, ak_37, ak_38, ak_39, ak_40, ak_41, ak_42, ak_43, ak_44, ak_45, ak_46, ak_47, ak_48, ak_49, ak_50, ak_51, ak_52, ak_53, ak_54, ak_55, ak_56, el31, el33, el34, CX7_exchange, ca_X7_exchange, frX7, kcX7, klX7]
      grind (splits := 60) [inR, up]
    · exact h.elim
def ca_X7_isSet : Nat → Option (Nat × Nat × Tr) := fun _ => none
theorem cao_X7_isSet (l : Launch) : ∀ k n' ci T', ca_X7_isSet k = some (n', ci, T') → ∃ nn, nn + 1 ≤ 0 ∧ Site l yX7_isSet.cls k n' ci nn T' := by
  intro k n' ci T' h
  cases h
def T_X7_isSet : Tr := fun a σ K => match a with
  | [.inr (.inl (7, 0)), .inl u, .inl x] => K (some (if band (bshr u x) 1 = 1 then 1 else 0)) σ
  | _ => False
set_option maxHeartbeats 4000000 in
set_option maxRecDepth 20000 in
theorem k_X7_isSet (l : Launch) : Ct l yX7_isSet cX7_isSet 3 (some .boolean) 0 T_X7_isSet := by
  refine mk_met (by decide +kernel) hCX7_isSet lCX7_isSet frX7_ok cstX7_ok (cao_X7_isSet l) ?_ ?_
  · intro a σ K h
    unfold T_X7_isSet at h
    split at h
    · simp [eL]
    · exact h.elim
  · intro a σ K ha hR h
    unfold T_X7_isSet at h
    split at h
    · rename_i u x
      refine ⟨fun _ => none, 200, fun pc I L S σ' k h => (by cases h), ?_⟩
      simp only [wp, stp, drp, entL, eL, lget, lset, okst, cnd, swt, rcv, Kr_int, Kr_bool, Kr_void, List.length_cons, List.length_nil, List.replicate, List.append_nil, List.cons_append, List.nil_append, List.take_succ_cons, List.take_zero, List.drop_succ_cons, List.drop_zero, List.reverse_cons, List.reverse_nil, Option.map_some, Option.map_none, Option.toList_some, Option.toList_none, Nat.reduceAdd, Nat.reduceSub, Nat.reduceLT, Nat.reduceLeDiff, Nat.reduceEqDiff, ↓reduceIte, Nat.add_zero, Nat.zero_add, true_and, and_true, Nat.le_refl, reduceCtorEq, false_implies, true_implies, not_true_eq_false, not_false_eq_true, Int.reduceAdd, Int.reduceSub, Int.reduceMul, Int.reduceLE, Int.reduceLT, Int.reduceEq, Int.reduceNe, Int.reduceNeg, Int.reduceDiv, Int.reduceMod, Bool.false_eq_true, Int.le_refl, and_self, true_or, or_true, inR_l, fv0, fv1, fv2, fv3, nc2, nc4, nc6, nc16, nc25, nc60, nc65, nc80, nc130, nc384, nc390, fp_0_0, fp_0_1, fp_0_2, fp_1_0, fp_1_1, fp_1_2, fp_1_3, fp_1_4, fp_1_5, fp_1_6, fp_1_7, fp_1_8, fp_1_9, fp_1_10, fp_1_11, fp_1_12, fp_1_13, fp_1_14, fp_2_0, fp_2_1, fp_2_2, fp_2_3, fp_3_0, fp_3_1, fp_4_0, fp_4_1, fp_4_2, fp_4_3, fp_4_4, fp_4_5, fp_4_6, fp_4_7, fp_5_0, fp_5_1, fp_5_2, fp_5_3, fp_5_4, fp_5_5, fp_5_6, fp_5_7, fp_6_0, fp_6_1, fp_6_2, fp_6_3, fp_6_4, fp_6_5, fp_6_6, fp_6_7, fp_6_8, fp_6_9, fp_6_10, fp_6_11, fp_6_12, fp_6_13, fp_6_14, fp_6_15, fp_7_0, fp_7_1, fp_7_2, fp_7_3, fp_7_4, fp_7_5, fp_7_6, fp_7_7, fp_7_8, fp_7_9, fp_7_10, fp_7_11, fp_7_12, fp_7_13, fp_7_14, fp_7_15, fp_7_16, fp_7_17, fp_7_18, fp_7_19, fp_7_20, fp_7_21, fp_7_22, fp_7_23, fp_7_24, iz_0_1, iz_0_2, iz_1_8, iz_1_9, iz_1_11, iz_2_1, iz_2_2, iz_2_3, iz_3_1, iz_4_1, iz_4_2, iz_5_0, iz_6_8, iz_6_9, iz_6_13, iz_6_14, iz_6_15, iz_7_2, iz_7_6, iz_7_12, iz_7_20, iz_7_21, iz_7_23, iz_7_24, ak_8, ak_9, ak_10, ak_11, ak_12, ak_13, ak_14, ak_15, ak_16, ak_17, ak_18, ak_19, ak_20, ak_21, ak_22, ak_23, ak_24, ak_25, ak_26, ak_27, ak_28, ak_29, ak_30, ak_31, ak_32, ak_33, ak_34, ak_35, ak_36, ak_37, ak_38, ak_39, ak_40, ak_41, ak_42, ak_43, ak_44, ak_45, ak_46, ak_47, ak_48, ak_49, ak_50, ak_51, ak_52, ak_53, ak_54, ak_55, ak_56, el31, el33, el34, CX7_isSet, ca_X7_isSet, frX7, kcX7, klX7]
      grind (splits := 60) [inR]
    · exact h.elim
def ca_X7_areTwo : Nat → Option (Nat × Nat × Tr)
  | 102 => some (2, 7, T_X7_isOperation)
  | 73 => some (2, 7, T_X7_machineOf)
  | _ => none
theorem cao_X7_areTwo (l : Launch) : ∀ k n' ci T', ca_X7_areTwo k = some (n', ci, T') → ∃ nn, nn + 1 ≤ 2 ∧ Site l yX7_areTwo.cls k n' ci nn T' := by
  intro k n' ci T' h
  unfold ca_X7_areTwo at h
  split at h
  · cases h; exact ⟨1, by decide, _, _, _, _, k_X7_isOperation l, Or.inl ⟨_, rfl, FX7_isOperation, KRX7_102⟩⟩
  · cases h; exact ⟨0, by decide, _, _, _, _, k_X7_machineOf l, Or.inl ⟨_, rfl, FX7_machineOf, KRX7_73⟩⟩
  · cases h
def T_X7_areTwo : Tr := fun a σ K => match a with
  | [.inr (.inl (7, 0)), .inl x, .inl y] => σ 38 0 0 ≤ 4 ∧ (σ 38 0 0 ≤ 4 ∧ ∀ j, 0 ≤ j → j < 4 → σ 38 0 (1 + 3 * j + 2) ≤ 4) ∧ K (some (if x ≠ y ∧ (0 ≤ x ∧ x / 4 < σ 38 0 0 ∧ x % 4 < σ 38 0 (1 + 3 * (x / 4) + 2)) ∧ (0 ≤ y ∧ y / 4 < σ 38 0 0 ∧ y % 4 < σ 38 0 (1 + 3 * (y / 4) + 2)) ∧ σ 38 0 (13 + 2 * x) = σ 38 0 (13 + 2 * y) then 1 else 0)) σ
  | _ => False
set_option maxHeartbeats 4000000 in
set_option maxRecDepth 20000 in
theorem k_X7_areTwo (l : Launch) : Ct l yX7_areTwo cX7_areTwo 3 (some .boolean) 2 T_X7_areTwo := by
  refine mk_met (by decide +kernel) hCX7_areTwo lCX7_areTwo frX7_ok cstX7_ok (cao_X7_areTwo l) ?_ ?_
  · intro a σ K h
    unfold T_X7_areTwo at h
    split at h
    · simp [eL]
    · exact h.elim
  · intro a σ K ha hR h
    unfold T_X7_areTwo at h
    split at h
    · rename_i x y
      refine ⟨fun _ => none, 200, fun pc I L S σ' k h => (by cases h), ?_⟩
      simp only [wp, stp, drp, entL, eL, lget, lset, okst, cnd, swt, rcv, Kr_int, Kr_bool, Kr_void, List.length_cons, List.length_nil, List.replicate, List.append_nil, List.cons_append, List.nil_append, List.take_succ_cons, List.take_zero, List.drop_succ_cons, List.drop_zero, List.reverse_cons, List.reverse_nil, Option.map_some, Option.map_none, Option.toList_some, Option.toList_none, Nat.reduceAdd, Nat.reduceSub, Nat.reduceLT, Nat.reduceLeDiff, Nat.reduceEqDiff, ↓reduceIte, Nat.add_zero, Nat.zero_add, true_and, and_true, Nat.le_refl, reduceCtorEq, false_implies, true_implies, not_true_eq_false, not_false_eq_true, Int.reduceAdd, Int.reduceSub, Int.reduceMul, Int.reduceLE, Int.reduceLT, Int.reduceEq, Int.reduceNe, Int.reduceNeg, Int.reduceDiv, Int.reduceMod, Bool.false_eq_true, Int.le_refl, and_self, true_or, or_true, inR_l, fv0, fv1, fv2, fv3, nc2, nc4, nc6, nc16, nc25, nc60, nc65, nc80, nc130, nc384, nc390, fp_0_0, fp_0_1, fp_0_2, fp_1_0, fp_1_1, fp_1_2, fp_1_3, fp_1_4, fp_1_5, fp_1_6, fp_1_7, fp_1_8, fp_1_9, fp_1_10, fp_1_11, fp_1_12, fp_1_13, fp_1_14, fp_2_0, fp_2_1, fp_2_2, fp_2_3, fp_3_0, fp_3_1, fp_4_0, fp_4_1, fp_4_2, fp_4_3, fp_4_4, fp_4_5, fp_4_6, fp_4_7, fp_5_0, fp_5_1, fp_5_2, fp_5_3, fp_5_4, fp_5_5, fp_5_6, fp_5_7, fp_6_0, fp_6_1, fp_6_2, fp_6_3, fp_6_4, fp_6_5, fp_6_6, fp_6_7, fp_6_8, fp_6_9, fp_6_10, fp_6_11, fp_6_12, fp_6_13, fp_6_14, fp_6_15, fp_7_0, fp_7_1, fp_7_2, fp_7_3, fp_7_4, fp_7_5, fp_7_6, fp_7_7, fp_7_8, fp_7_9, fp_7_10, fp_7_11, fp_7_12, fp_7_13, fp_7_14, fp_7_15, fp_7_16, fp_7_17, fp_7_18, fp_7_19, fp_7_20, fp_7_21, fp_7_22, fp_7_23, fp_7_24, iz_0_1, iz_0_2, iz_1_8, iz_1_9, iz_1_11, iz_2_1, iz_2_2, iz_2_3, iz_3_1, iz_4_1, iz_4_2, iz_5_0, iz_6_8, iz_6_9, iz_6_13, iz_6_14, iz_6_15, iz_7_2, iz_7_6, iz_7_12, iz_7_20, iz_7_21, iz_7_23, iz_7_24, ak_8, ak_9, ak_10, ak_11, ak_12, ak_13, ak_14, ak_15, ak_16, ak_17, ak_18, ak_19, ak_20, ak_21, ak_22, ak_23, ak_24, ak_25, ak_26, ak_27, ak_28, ak_29, ak_30, ak_31, ak_32, ak_33, ak_34, ak_35, ak_36, ak_37, ak_38, ak_39, ak_40, ak_41, ak_42, ak_43, ak_44, ak_45, ak_46, ak_47, ak_48, ak_49, ak_50, ak_51, ak_52, ak_53, ak_54, ak_55, ak_56, el31, el33, el34, CX7_areTwo, ca_X7_areTwo, frX7, kcX7, klX7, T_X7_isOperation, T_X7_machineOf]
      grind (splits := 60) [inR]
    · exact h.elim
def ca_X7_operationOn : Nat → Option (Nat × Nat × Tr)
  | 69 => some (3, 7, T_X7_ofAJob)
  | 73 => some (2, 7, T_X7_machineOf)
  | _ => none
theorem cao_X7_operationOn (l : Launch) : ∀ k n' ci T', ca_X7_operationOn k = some (n', ci, T') → ∃ nn, nn + 1 ≤ 1 ∧ Site l yX7_operationOn.cls k n' ci nn T' := by
  intro k n' ci T' h
  unfold ca_X7_operationOn at h
  split at h
  · cases h; exact ⟨0, by decide, _, _, _, _, k_X7_ofAJob l, Or.inl ⟨_, rfl, FX7_ofAJob, KRX7_69⟩⟩
  · cases h; exact ⟨0, by decide, _, _, _, _, k_X7_machineOf l, Or.inl ⟨_, rfl, FX7_machineOf, KRX7_73⟩⟩
  · cases h
def T_X7_operationOn : Tr := fun a σ K => match a with
  | [.inr (.inl (7, 0)), .inl j, .inl m] => (0 ≤ j ∧ j < 4 ∧ σ 38 0 (1 + 3 * j + 2) ≤ 4) ∧ K (some (opF (fun k => σ 38 0 (13 + 2 * k)) (σ 38 0 (1 + 3 * j + 2)) j m)) σ
  | _ => False
set_option maxHeartbeats 4000000 in
set_option maxRecDepth 20000 in
theorem k_X7_operationOn (l : Launch) : Ct l yX7_operationOn cX7_operationOn 4 (some .int) 1 T_X7_operationOn := by
  refine mk_met (by decide +kernel) hCX7_operationOn lCX7_operationOn frX7_ok cstX7_ok (cao_X7_operationOn l) ?_ ?_
  · intro a σ K h
    unfold T_X7_operationOn at h
    split at h
    · simp [eL]
    · exact h.elim
  · intro a σ K ha hR h
    unfold T_X7_operationOn at h
    split at h
    · rename_i j m
      refine ⟨fun _ => none, 200, fun pc I L S σ' k h => (by cases h), ?_⟩
      simp only [wp, stp, drp, entL, eL, lget, lset, okst, cnd, swt, rcv, Kr_int, Kr_bool, Kr_void, List.length_cons, List.length_nil, List.replicate, List.append_nil, List.cons_append, List.nil_append, List.take_succ_cons, List.take_zero, List.drop_succ_cons, List.drop_zero, List.reverse_cons, List.reverse_nil, Option.map_some, Option.map_none, Option.toList_some, Option.toList_none, Nat.reduceAdd, Nat.reduceSub, Nat.reduceLT, Nat.reduceLeDiff, Nat.reduceEqDiff, ↓reduceIte, Nat.add_zero, Nat.zero_add, true_and, and_true, Nat.le_refl, reduceCtorEq, false_implies, true_implies, not_true_eq_false, not_false_eq_true, Int.reduceAdd, Int.reduceSub, Int.reduceMul, Int.reduceLE, Int.reduceLT, Int.reduceEq, Int.reduceNe, Int.reduceNeg, Int.reduceDiv, Int.reduceMod, Bool.false_eq_true, Int.le_refl, and_self, true_or, or_true, inR_l, fv0, fv1, fv2, fv3, nc2, nc4, nc6, nc16, nc25, nc60, nc65, nc80, nc130, nc384, nc390, fp_0_0, fp_0_1, fp_0_2, fp_1_0, fp_1_1, fp_1_2, fp_1_3, fp_1_4, fp_1_5, fp_1_6, fp_1_7, fp_1_8, fp_1_9, fp_1_10, fp_1_11, fp_1_12, fp_1_13, fp_1_14, fp_2_0, fp_2_1, fp_2_2, fp_2_3, fp_3_0, fp_3_1, fp_4_0, fp_4_1, fp_4_2, fp_4_3, fp_4_4, fp_4_5, fp_4_6, fp_4_7, fp_5_0, fp_5_1, fp_5_2, fp_5_3, fp_5_4, fp_5_5, fp_5_6, fp_5_7, fp_6_0, fp_6_1, fp_6_2, fp_6_3, fp_6_4, fp_6_5, fp_6_6, fp_6_7, fp_6_8, fp_6_9, fp_6_10, fp_6_11, fp_6_12, fp_6_13, fp_6_14, fp_6_15, fp_7_0, fp_7_1, fp_7_2, fp_7_3, fp_7_4, fp_7_5, fp_7_6, fp_7_7, fp_7_8, fp_7_9, fp_7_10, fp_7_11, fp_7_12, fp_7_13, fp_7_14, fp_7_15, fp_7_16, fp_7_17, fp_7_18, fp_7_19, fp_7_20, fp_7_21, fp_7_22, fp_7_23, fp_7_24, iz_0_1, iz_0_2, iz_1_8, iz_1_9, iz_1_11, iz_2_1, iz_2_2, iz_2_3, iz_3_1, iz_4_1, iz_4_2, iz_5_0, iz_6_8, iz_6_9, iz_6_13, iz_6_14, iz_6_15, iz_7_2, iz_7_6, iz_7_12, iz_7_20, iz_7_21, iz_7_23, iz_7_24, ak_8, ak_9, ak_10, ak_11, ak_12, ak_13, ak_14, ak_15, ak_16, ak_17, ak_18, ak_19, ak_20, ak_21, ak_22, ak_23, ak_24, ak_25, ak_26, ak_27, ak_28, ak_29, ak_30, ak_31, ak_32, ak_33, ak_34, ak_35, ak_36, ak_37, ak_38, ak_39, ak_40, ak_41, ak_42, ak_43, ak_44, ak_45, ak_46, ak_47, ak_48, ak_49, ak_50, ak_51, ak_52, ak_53, ak_54, ak_55, ak_56, el31, el33, el34, CX7_operationOn, ca_X7_operationOn, frX7, kcX7, klX7, T_X7_ofAJob, T_X7_machineOf]
      unfold opF at h
      grind [inR]
    · exact h.elim
end
section
def ca_X5_hasJob : Nat → Option (Nat × Nat × Tr) := fun _ => none
theorem cao_X5_hasJob (l : Launch) : ∀ k n' ci T', ca_X5_hasJob k = some (n', ci, T') → ∃ nn, nn + 1 ≤ 0 ∧ Site l yX5_hasJob.cls k n' ci nn T' := by
  intro k n' ci T' h
  cases h
def T_X5_hasJob : Tr := fun a σ K => match a with
  | [.inr (.inl (5, i)), .inl j] => K (some (if 0 ≤ j ∧ j < σ 5 i 0 then 1 else 0)) σ
  | _ => False
set_option maxHeartbeats 4000000 in
set_option maxRecDepth 20000 in
theorem k_X5_hasJob (l : Launch) : Ct l yX5_hasJob cX5_hasJob 2 (some .boolean) 0 T_X5_hasJob := by
  refine mk_met (by decide +kernel) hCX5_hasJob lCX5_hasJob frX5_ok cstX5_ok (cao_X5_hasJob l) ?_ ?_
  · intro a σ K h
    unfold T_X5_hasJob at h
    split at h
    · simp [eL]
    · exact h.elim
  · intro a σ K ha hR h
    unfold T_X5_hasJob at h
    split at h
    · rename_i i j
      refine ⟨fun _ => none, 200, fun pc I L S σ' k h => (by cases h), ?_⟩
      simp only [wp, stp, drp, entL, eL, lget, lset, okst, cnd, swt, rcv, Kr_int, Kr_bool, Kr_void, List.length_cons, List.length_nil, List.replicate, List.append_nil, List.cons_append, List.nil_append, List.take_succ_cons, List.take_zero, List.drop_succ_cons, List.drop_zero, List.reverse_cons, List.reverse_nil, Option.map_some, Option.map_none, Option.toList_some, Option.toList_none, Nat.reduceAdd, Nat.reduceSub, Nat.reduceLT, Nat.reduceLeDiff, Nat.reduceEqDiff, ↓reduceIte, Nat.add_zero, Nat.zero_add, true_and, and_true, Nat.le_refl, reduceCtorEq, false_implies, true_implies, not_true_eq_false, not_false_eq_true, Int.reduceAdd, Int.reduceSub, Int.reduceMul, Int.reduceLE, Int.reduceLT, Int.reduceEq, Int.reduceNe, Int.reduceNeg, Int.reduceDiv, Int.reduceMod, Bool.false_eq_true, Int.le_refl, and_self, true_or, or_true, inR_l, fv0, fv1, fv2, fv3, nc2, nc4, nc6, nc16, nc25, nc60, nc65, nc80, nc130, nc384, nc390, fp_0_0, fp_0_1, fp_0_2, fp_1_0, fp_1_1, fp_1_2, fp_1_3, fp_1_4, fp_1_5, fp_1_6, fp_1_7, fp_1_8, fp_1_9, fp_1_10, fp_1_11, fp_1_12, fp_1_13, fp_1_14, fp_2_0, fp_2_1, fp_2_2, fp_2_3, fp_3_0, fp_3_1, fp_4_0, fp_4_1, fp_4_2, fp_4_3, fp_4_4, fp_4_5, fp_4_6, fp_4_7, fp_5_0, fp_5_1, fp_5_2, fp_5_3, fp_5_4, fp_5_5, fp_5_6, fp_5_7, fp_6_0, fp_6_1, fp_6_2, fp_6_3, fp_6_4, fp_6_5, fp_6_6, fp_6_7, fp_6_8, fp_6_9, fp_6_10, fp_6_11, fp_6_12, fp_6_13, fp_6_14, fp_6_15, fp_7_0, fp_7_1, fp_7_2, fp_7_3, fp_7_4, fp_7_5, fp_7_6, fp_7_7, fp_7_8, fp_7_9, fp_7_10, fp_7_11, fp_7_12, fp_7_13, fp_7_14, fp_7_15, fp_7_16, fp_7_17, fp_7_18, fp_7_19, fp_7_20, fp_7_21, fp_7_22, fp_7_23, fp_7_24, iz_0_1, iz_0_2, iz_1_8, iz_1_9, iz_1_11, iz_2_1, iz_2_2, iz_2_3, iz_3_1, iz_4_1, iz_4_2, iz_5_0, iz_6_8, iz_6_9, iz_6_13, iz_6_14, iz_6_15, iz_7_2, iz_7_6, iz_7_12, iz_7_20, iz_7_21, iz_7_23, iz_7_24, ak_8, ak_9, ak_10, ak_11, ak_12, ak_13, ak_14, ak_15, ak_16, ak_17, ak_18, ak_19, ak_20, ak_21, ak_22, ak_23, ak_24, ak_25, ak_26, ak_27, ak_28, ak_29, ak_30, ak_31, ak_32, ak_33, ak_34, ak_35, ak_36, ak_37, ak_38, ak_39, ak_40, ak_41, ak_42, ak_43, ak_44, ak_45, ak_46, ak_47, ak_48, ak_49, ak_50, ak_51, ak_52, ak_53, ak_54, ak_55, ak_56, el31, el33, el34, CX5_hasJob, ca_X5_hasJob, frX5, kcX5, klX5]
      grind (splits := 60) [inR, up]
    · exact h.elim
def ca_X5_hasOperation : Nat → Option (Nat × Nat × Tr) := fun _ => none
theorem cao_X5_hasOperation (l : Launch) : ∀ k n' ci T', ca_X5_hasOperation k = some (n', ci, T') → ∃ nn, nn + 1 ≤ 0 ∧ Site l yX5_hasOperation.cls k n' ci nn T' := by
  intro k n' ci T' h
  cases h
def T_X5_hasOperation : Tr := fun a σ K => match a with
  | [.inr (.inl (5, i)), .inl x] => K (some (if 0 ≤ x ∧ x < 16 ∧ x % 4 < σ 10 i (x / 4) then 1 else 0)) σ
  | _ => False
set_option maxHeartbeats 4000000 in
set_option maxRecDepth 20000 in
theorem k_X5_hasOperation (l : Launch) : Ct l yX5_hasOperation cX5_hasOperation 2 (some .boolean) 0 T_X5_hasOperation := by
  refine mk_met (by decide +kernel) hCX5_hasOperation lCX5_hasOperation frX5_ok cstX5_ok (cao_X5_hasOperation l) ?_ ?_
  · intro a σ K h
    unfold T_X5_hasOperation at h
    split at h
    · simp [eL]
    · exact h.elim
  · intro a σ K ha hR h
    unfold T_X5_hasOperation at h
    split at h
    · rename_i i x
      refine ⟨fun _ => none, 200, fun pc I L S σ' k h => (by cases h), ?_⟩
      simp only [wp, stp, drp, entL, eL, lget, lset, okst, cnd, swt, rcv, Kr_int, Kr_bool, Kr_void, List.length_cons, List.length_nil, List.replicate, List.append_nil, List.cons_append, List.nil_append, List.take_succ_cons, List.take_zero, List.drop_succ_cons, List.drop_zero, List.reverse_cons, List.reverse_nil, Option.map_some, Option.map_none, Option.toList_some, Option.toList_none, Nat.reduceAdd, Nat.reduceSub, Nat.reduceLT, Nat.reduceLeDiff, Nat.reduceEqDiff, ↓reduceIte, Nat.add_zero, Nat.zero_add, true_and, and_true, Nat.le_refl, reduceCtorEq, false_implies, true_implies, not_true_eq_false, not_false_eq_true, Int.reduceAdd, Int.reduceSub, Int.reduceMul, Int.reduceLE, Int.reduceLT, Int.reduceEq, Int.reduceNe, Int.reduceNeg, Int.reduceDiv, Int.reduceMod, Bool.false_eq_true, Int.le_refl, and_self, true_or, or_true, inR_l, fv0, fv1, fv2, fv3, nc2, nc4, nc6, nc16, nc25, nc60, nc65, nc80, nc130, nc384, nc390, fp_0_0, fp_0_1, fp_0_2, fp_1_0, fp_1_1, fp_1_2, fp_1_3, fp_1_4, fp_1_5, fp_1_6, fp_1_7, fp_1_8, fp_1_9, fp_1_10, fp_1_11, fp_1_12, fp_1_13, fp_1_14, fp_2_0, fp_2_1, fp_2_2, fp_2_3, fp_3_0, fp_3_1, fp_4_0, fp_4_1, fp_4_2, fp_4_3, fp_4_4, fp_4_5, fp_4_6, fp_4_7, fp_5_0, fp_5_1, fp_5_2, fp_5_3, fp_5_4, fp_5_5, fp_5_6, fp_5_7, fp_6_0, fp_6_1, fp_6_2, fp_6_3, fp_6_4, fp_6_5, fp_6_6, fp_6_7, fp_6_8, fp_6_9, fp_6_10, fp_6_11, fp_6_12, fp_6_13, fp_6_14, fp_6_15, fp_7_0, fp_7_1, fp_7_2, fp_7_3, fp_7_4, fp_7_5, fp_7_6, fp_7_7, fp_7_8, fp_7_9, fp_7_10, fp_7_11, fp_7_12, fp_7_13, fp_7_14, fp_7_15, fp_7_16, fp_7_17, fp_7_18, fp_7_19, fp_7_20, fp_7_21, fp_7_22, fp_7_23, fp_7_24, iz_0_1, iz_0_2, iz_1_8, iz_1_9, iz_1_11, iz_2_1, iz_2_2, iz_2_3, iz_3_1, iz_4_1, iz_4_2, iz_5_0, iz_6_8, iz_6_9, iz_6_13, iz_6_14, iz_6_15, iz_7_2, iz_7_6, iz_7_12, iz_7_20, iz_7_21, iz_7_23, iz_7_24, ak_8, ak_9, ak_10, ak_11, ak_12, ak_13, ak_14, ak_15, ak_16, ak_17, ak_18, ak_19, ak_20, ak_21, ak_22, ak_23, ak_24, ak_25, ak_26, ak_27, ak_28, ak_29, ak_30, ak_31, ak_32, ak_33, ak_34, ak_35, ak_36, ak_37, ak_38, ak_39, ak_40, ak_41, ak_42, ak_43, ak_44, ak_45, ak_46, ak_47, ak_48, ak_49, ak_50, ak_51, ak_52, ak_53, ak_54, ak_55, ak_56, el31, el33, el34, CX5_hasOperation, ca_X5_hasOperation, frX5, kcX5, klX5]
      grind (splits := 60) [inR, up]
    · exact h.elim
def ca_X5_hasPlace : Nat → Option (Nat × Nat × Tr) := fun _ => none
theorem cao_X5_hasPlace (l : Launch) : ∀ k n' ci T', ca_X5_hasPlace k = some (n', ci, T') → ∃ nn, nn + 1 ≤ 0 ∧ Site l yX5_hasPlace.cls k n' ci nn T' := by
  intro k n' ci T' h
  cases h
def T_X5_hasPlace : Tr := fun a σ K => match a with
  | [.inr (.inl (5, i)), .inl m, .inl x] => (0 ≤ m ∧ m < 4) ∧ K (some (if 0 ≤ x ∧ x < σ 13 i m then 1 else 0)) σ
  | _ => False
set_option maxHeartbeats 4000000 in
set_option maxRecDepth 20000 in
theorem k_X5_hasPlace (l : Launch) : Ct l yX5_hasPlace cX5_hasPlace 3 (some .boolean) 0 T_X5_hasPlace := by
  refine mk_met (by decide +kernel) hCX5_hasPlace lCX5_hasPlace frX5_ok cstX5_ok (cao_X5_hasPlace l) ?_ ?_
  · intro a σ K h
    unfold T_X5_hasPlace at h
    split at h
    · simp [eL]
    · exact h.elim
  · intro a σ K ha hR h
    unfold T_X5_hasPlace at h
    split at h
    · rename_i i m x
      refine ⟨fun _ => none, 200, fun pc I L S σ' k h => (by cases h), ?_⟩
      simp only [wp, stp, drp, entL, eL, lget, lset, okst, cnd, swt, rcv, Kr_int, Kr_bool, Kr_void, List.length_cons, List.length_nil, List.replicate, List.append_nil, List.cons_append, List.nil_append, List.take_succ_cons, List.take_zero, List.drop_succ_cons, List.drop_zero, List.reverse_cons, List.reverse_nil, Option.map_some, Option.map_none, Option.toList_some, Option.toList_none, Nat.reduceAdd, Nat.reduceSub, Nat.reduceLT, Nat.reduceLeDiff, Nat.reduceEqDiff, ↓reduceIte, Nat.add_zero, Nat.zero_add, true_and, and_true, Nat.le_refl, reduceCtorEq, false_implies, true_implies, not_true_eq_false, not_false_eq_true, Int.reduceAdd, Int.reduceSub, Int.reduceMul, Int.reduceLE, Int.reduceLT, Int.reduceEq, Int.reduceNe, Int.reduceNeg, Int.reduceDiv, Int.reduceMod, Bool.false_eq_true, Int.le_refl, and_self, true_or, or_true, inR_l, fv0, fv1, fv2, fv3, nc2, nc4, nc6, nc16, nc25, nc60, nc65, nc80, nc130, nc384, nc390, fp_0_0, fp_0_1, fp_0_2, fp_1_0, fp_1_1, fp_1_2, fp_1_3, fp_1_4, fp_1_5, fp_1_6, fp_1_7, fp_1_8, fp_1_9, fp_1_10, fp_1_11, fp_1_12, fp_1_13, fp_1_14, fp_2_0, fp_2_1, fp_2_2, fp_2_3, fp_3_0, fp_3_1, fp_4_0, fp_4_1, fp_4_2, fp_4_3, fp_4_4, fp_4_5, fp_4_6, fp_4_7, fp_5_0, fp_5_1, fp_5_2, fp_5_3, fp_5_4, fp_5_5, fp_5_6, fp_5_7, fp_6_0, fp_6_1, fp_6_2, fp_6_3, fp_6_4, fp_6_5, fp_6_6, fp_6_7, fp_6_8, fp_6_9, fp_6_10, fp_6_11, fp_6_12, fp_6_13, fp_6_14, fp_6_15, fp_7_0, fp_7_1, fp_7_2, fp_7_3, fp_7_4, fp_7_5, fp_7_6, fp_7_7, fp_7_8, fp_7_9, fp_7_10, fp_7_11, fp_7_12, fp_7_13, fp_7_14, fp_7_15, fp_7_16, fp_7_17, fp_7_18, fp_7_19, fp_7_20, fp_7_21, fp_7_22, fp_7_23, fp_7_24, iz_0_1, iz_0_2, iz_1_8, iz_1_9, iz_1_11, iz_2_1, iz_2_2, iz_2_3, iz_3_1, iz_4_1, iz_4_2, iz_5_0, iz_6_8, iz_6_9, iz_6_13, iz_6_14, iz_6_15, iz_7_2, iz_7_6, iz_7_12, iz_7_20, iz_7_21, iz_7_23, iz_7_24, ak_8, ak_9, ak_10, ak_11, ak_12, ak_13, ak_14, ak_15, ak_16, ak_17, ak_18, ak_19, ak_20, ak_21, ak_22, ak_23, ak_24, ak_25, ak_26, ak_27, ak_28, ak_29, ak_30, ak_31, ak_32, ak_33, ak_34, ak_35, ak_36, ak_37, ak_38, ak_39, ak_40, ak_41, ak_42, ak_43, ak_44, ak_45, ak_46, ak_47, ak_48, ak_49, ak_50, ak_51, ak_52, ak_53, ak_54, ak_55, ak_56, el31, el33, el34, CX5_hasPlace, ca_X5_hasPlace, frX5, kcX5, klX5]
      grind (splits := 60) [inR, up]
    · exact h.elim
def ca_X5_addJob : Nat → Option (Nat × Nat × Tr) := fun _ => none
theorem cao_X5_addJob (l : Launch) : ∀ k n' ci T', ca_X5_addJob k = some (n', ci, T') → ∃ nn, nn + 1 ≤ 0 ∧ Site l yX5_addJob.cls k n' ci nn T' := by
  intro k n' ci T' h
  cases h
def T_X5_addJob : Tr := fun a σ K => match a with
  | [.inr (.inl (5, i)), .inl r, .inl d] => (0 ≤ σ 5 i 0 ∧ σ 5 i 0 ≤ 4) ∧ K (some (if 4 ≤ σ 5 i 0 then -4 else σ 5 i 0)) (if 4 ≤ σ 5 i 0 then σ else up (up (up (up σ 8 i (σ 5 i 0) r) 9 i (σ 5 i 0) d) 10 i (σ 5 i 0) 0) 5 i 0 (σ 5 i 0 + 1))
  | _ => False
set_option maxHeartbeats 4000000 in
set_option maxRecDepth 20000 in
theorem k_X5_addJob (l : Launch) : Ct l yX5_addJob cX5_addJob 3 (some .int) 0 T_X5_addJob := by
  refine mk_met (by decide +kernel) hCX5_addJob lCX5_addJob frX5_ok cstX5_ok (cao_X5_addJob l) ?_ ?_
  · intro a σ K h
    unfold T_X5_addJob at h
    split at h
    · simp [eL]
    · exact h.elim
  · intro a σ K ha hR h
    unfold T_X5_addJob at h
    split at h
    · rename_i i r d
      refine ⟨fun _ => none, 200, fun pc I L S σ' k h => (by cases h), ?_⟩
      simp only [wp, stp, drp, entL, eL, lget, lset, okst, cnd, swt, rcv, Kr_int, Kr_bool, Kr_void, List.length_cons, List.length_nil, List.replicate, List.append_nil, List.cons_append, List.nil_append, List.take_succ_cons, List.take_zero, List.drop_succ_cons, List.drop_zero, List.reverse_cons, List.reverse_nil, Option.map_some, Option.map_none, Option.toList_some, Option.toList_none, Nat.reduceAdd, Nat.reduceSub, Nat.reduceLT, Nat.reduceLeDiff, Nat.reduceEqDiff, ↓reduceIte, Nat.add_zero, Nat.zero_add, true_and, and_true, Nat.le_refl, reduceCtorEq, false_implies, true_implies, not_true_eq_false, not_false_eq_true, Int.reduceAdd, Int.reduceSub, Int.reduceMul, Int.reduceLE, Int.reduceLT, Int.reduceEq, Int.reduceNe, Int.reduceNeg, Int.reduceDiv, Int.reduceMod, Bool.false_eq_true, Int.le_refl, and_self, true_or, or_true, inR_l, fv0, fv1, fv2, fv3, nc2, nc4, nc6, nc16, nc25, nc60, nc65, nc80, nc130, nc384, nc390, fp_0_0, fp_0_1, fp_0_2, fp_1_0, fp_1_1, fp_1_2, fp_1_3, fp_1_4, fp_1_5, fp_1_6, fp_1_7, fp_1_8, fp_1_9, fp_1_10, fp_1_11, fp_1_12, fp_1_13, fp_1_14, fp_2_0, fp_2_1, fp_2_2, fp_2_3, fp_3_0, fp_3_1, fp_4_0, fp_4_1, fp_4_2, fp_4_3, fp_4_4, fp_4_5, fp_4_6, fp_4_7, fp_5_0, fp_5_1, fp_5_2, fp_5_3, fp_5_4, fp_5_5, fp_5_6, fp_5_7, fp_6_0, fp_6_1, fp_6_2, fp_6_3, fp_6_4, fp_6_5, fp_6_6, fp_6_7, fp_6_8, fp_6_9, fp_6_10, fp_6_11, fp_6_12, fp_6_13, fp_6_14, fp_6_15, fp_7_0, fp_7_1, fp_7_2, fp_7_3, fp_7_4, fp_7_5, fp_7_6, fp_7_7, fp_7_8, fp_7_9, fp_7_10, fp_7_11, fp_7_12, fp_7_13, fp_7_14, fp_7_15, fp_7_16, fp_7_17, fp_7_18, fp_7_19, fp_7_20, fp_7_21, fp_7_22, fp_7_23, fp_7_24, iz_0_1, iz_0_2, iz_1_8, iz_1_9, iz_1_11, iz_2_1, iz_2_2, iz_2_3, iz_3_1, iz_4_1, iz_4_2, iz_5_0, iz_6_8, iz_6_9, iz_6_13, iz_6_14, iz_6_15, iz_7_2, iz_7_6, iz_7_12, iz_7_20, iz_7_21, iz_7_23, iz_7_24, ak_8, ak_9, ak_10, ak_11, ak_12, ak_13, ak_14, ak_15, ak_16, ak_17, ak_18, ak_19, ak_20, ak_21, ak_22, ak_23, ak_24, ak_25, ak_26, ak_27, ak_28, ak_29, ak_30, ak_31, ak_32, ak_33, ak_34, ak_35, ak_36, ak_37, ak_38, ak_39, ak_40, ak_41, ak_42, ak_43, ak_44, ak_45, ak_46, ak_47, ak_48, ak_49, ak_50, ak_51, ak_52, ak_53, ak_54, ak_55, ak_56, el31, el33, el34, CX5_addJob, ca_X5_addJob, frX5, kcX5, klX5]
      grind (splits := 60) [inR, up]
    · exact h.elim
def ca_X5_append : Nat → Option (Nat × Nat × Tr) := fun _ => none
theorem cao_X5_append (l : Launch) : ∀ k n' ci T', ca_X5_append k = some (n', ci, T') → ∃ nn, nn + 1 ≤ 0 ∧ Site l yX5_append.cls k n' ci nn T' := by
  intro k n' ci T' h
  cases h
def T_X5_append : Tr := fun a σ K => match a with
  | [.inr (.inl (5, i)), .inl m, .inl j] => (0 ≤ m ∧ m < 4 ∧ 0 ≤ σ 13 i m ∧ σ 13 i m ≤ 4) ∧ K none (if σ 13 i m < 4 then up (up σ 14 i (4 * m + σ 13 i m) j) 13 i m (σ 13 i m + 1) else σ)
  | _ => False
set_option maxHeartbeats 4000000 in
set_option maxRecDepth 20000 in
theorem k_X5_append (l : Launch) : Ct l yX5_append cX5_append 3 none 0 T_X5_append := by
  refine mk_met (by decide +kernel) hCX5_append lCX5_append frX5_ok cstX5_ok (cao_X5_append l) ?_ ?_
  · intro a σ K h
    unfold T_X5_append at h
    split at h
    · simp [eL]
    · exact h.elim
  · intro a σ K ha hR h
    unfold T_X5_append at h
    split at h
    · rename_i i m j
      refine ⟨fun _ => none, 200, fun pc I L S σ' k h => (by cases h), ?_⟩
      simp only [wp, stp, drp, entL, eL, lget, lset, okst, cnd, swt, rcv, Kr_int, Kr_bool, Kr_void, List.length_cons, List.length_nil, List.replicate, List.append_nil, List.cons_append, List.nil_append, List.take_succ_cons, List.take_zero, List.drop_succ_cons, List.drop_zero, List.reverse_cons, List.reverse_nil, Option.map_some, Option.map_none, Option.toList_some, Option.toList_none, Nat.reduceAdd, Nat.reduceSub, Nat.reduceLT, Nat.reduceLeDiff, Nat.reduceEqDiff, ↓reduceIte, Nat.add_zero, Nat.zero_add, true_and, and_true, Nat.le_refl, reduceCtorEq, false_implies, true_implies, not_true_eq_false, not_false_eq_true, Int.reduceAdd, Int.reduceSub, Int.reduceMul, Int.reduceLE, Int.reduceLT, Int.reduceEq, Int.reduceNe, Int.reduceNeg, Int.reduceDiv, Int.reduceMod, Bool.false_eq_true, Int.le_refl, and_self, true_or, or_true, inR_l, fv0, fv1, fv2, fv3, nc2, nc4, nc6, nc16, nc25, nc60, nc65, nc80, nc130, nc384, nc390, fp_0_0, fp_0_1, fp_0_2, fp_1_0, fp_1_1, fp_1_2, fp_1_3, fp_1_4, fp_1_5, fp_1_6, fp_1_7, fp_1_8, fp_1_9, fp_1_10, fp_1_11, fp_1_12, fp_1_13, fp_1_14, fp_2_0, fp_2_1, fp_2_2, fp_2_3, fp_3_0, fp_3_1, fp_4_0, fp_4_1, fp_4_2, fp_4_3, fp_4_4, fp_4_5, fp_4_6, fp_4_7, fp_5_0, fp_5_1, fp_5_2, fp_5_3, fp_5_4, fp_5_5, fp_5_6, fp_5_7, fp_6_0, fp_6_1, fp_6_2, fp_6_3, fp_6_4, fp_6_5, fp_6_6, fp_6_7, fp_6_8, fp_6_9, fp_6_10, fp_6_11, fp_6_12, fp_6_13, fp_6_14, fp_6_15, fp_7_0, fp_7_1, fp_7_2, fp_7_3, fp_7_4, fp_7_5, fp_7_6, fp_7_7, fp_7_8, fp_7_9, fp_7_10, fp_7_11, fp_7_12, fp_7_13, fp_7_14, fp_7_15, fp_7_16, fp_7_17, fp_7_18, fp_7_19, fp_7_20, fp_7_21, fp_7_22, fp_7_23, fp_7_24, iz_0_1, iz_0_2, iz_1_8, iz_1_9, iz_1_11, iz_2_1, iz_2_2, iz_2_3, iz_3_1, iz_4_1, iz_4_2, iz_5_0, iz_6_8, iz_6_9, iz_6_13, iz_6_14, iz_6_15, iz_7_2, iz_7_6, iz_7_12, iz_7_20, iz_7_21, iz_7_23, iz_7_24, ak_8, ak_9, ak_10, ak_11, ak_12, ak_13, ak_14, ak_15, ak_16, ak_17, ak_18, ak_19, ak_20, ak_21, ak_22, ak_23, ak_24, ak_25, ak_26, ak_27, ak_28, ak_29, ak_30, ak_31, ak_32, ak_33, ak_34, ak_35, ak_36, ak_37, ak_38, ak_39, ak_40, ak_41, ak_42, ak_43, ak_44, ak_45, ak_46, ak_47, ak_48, ak_49, ak_50, ak_51, ak_52, ak_53, ak_54, ak_55, ak_56, el31, el33, el34, CX5_append, ca_X5_append, frX5, kcX5, klX5]
      grind (splits := 60) [inR, up]
    · exact h.elim
def ca_X5_addOperation : Nat → Option (Nat × Nat × Tr)
  | 41 => some (3, 5, T_X5_append)
  | _ => none
theorem cao_X5_addOperation (l : Launch) : ∀ k n' ci T', ca_X5_addOperation k = some (n', ci, T') → ∃ nn, nn + 1 ≤ 1 ∧ Site l yX5_addOperation.cls k n' ci nn T' := by
  intro k n' ci T' h
  unfold ca_X5_addOperation at h
  split at h
  · cases h; exact ⟨0, by decide, _, _, _, _, k_X5_append l, Or.inl ⟨_, rfl, FX5_append, KRX5_41⟩⟩
  · cases h
def T_X5_addOperation : Tr := fun a σ K => match a with
  | [.inr (.inl (5, i)), .inl j, .inl m, .inl d] => (0 ≤ j ∧ j < 4 ∧ 0 ≤ m ∧ m < 4 ∧ 0 ≤ σ 10 i j ∧ σ 10 i j < 4 ∧ 0 ≤ σ 13 i m ∧ σ 13 i m < 4) ∧ K (some (4 * j + σ 10 i j)) (up (up (up (up (up σ 11 i (4 * j + σ 10 i j) m) 12 i (4 * j + σ 10 i j) d) 10 i j (σ 10 i j + 1)) 14 i (4 * m + σ 13 i m) j) 13 i m (σ 13 i m + 1))
  | _ => False
set_option maxHeartbeats 4000000 in
set_option maxRecDepth 20000 in
theorem k_X5_addOperation (l : Launch) : Ct l yX5_addOperation cX5_addOperation 5 (some .int) 1 T_X5_addOperation := by
  refine mk_met (by decide +kernel) hCX5_addOperation lCX5_addOperation frX5_ok cstX5_ok (cao_X5_addOperation l) ?_ ?_
  · intro a σ K h
    unfold T_X5_addOperation at h
    split at h
    · simp [eL]
    · exact h.elim
  · intro a σ K ha hR h
    unfold T_X5_addOperation at h
    split at h
    · rename_i i j m d
      refine ⟨fun _ => none, 200, fun pc I L S σ' k h => (by cases h), ?_⟩
      simp only [wp, stp, drp, entL, eL, lget, lset, okst, cnd, swt, rcv, Kr_int, Kr_bool, Kr_void, List.length_cons, List.length_nil, List.replicate, List.append_nil, List.cons_append, List.nil_append, List.take_succ_cons, List.take_zero, List.drop_succ_cons, List.drop_zero, List.reverse_cons, List.reverse_nil, Option.map_some, Option.map_none, Option.toList_some, Option.toList_none, Nat.reduceAdd, Nat.reduceSub, Nat.reduceLT, Nat.reduceLeDiff, Nat.reduceEqDiff, ↓reduceIte, Nat.add_zero, Nat.zero_add, true_and, and_true, Nat.le_refl, reduceCtorEq, false_implies, true_implies, not_true_eq_false, not_false_eq_true, Int.reduceAdd, Int.reduceSub, Int.reduceMul, Int.reduceLE, Int.reduceLT, Int.reduceEq, Int.reduceNe, Int.reduceNeg, Int.reduceDiv, Int.reduceMod, Bool.false_eq_true, Int.le_refl, and_self, true_or, or_true, inR_l, fv0, fv1, fv2, fv3, nc2, nc4, nc6, nc16, nc25, nc60, nc65, nc80, nc130, nc384, nc390, fp_0_0, fp_0_1, fp_0_2, fp_1_0, fp_1_1, fp_1_2, fp_1_3, fp_1_4, fp_1_5, fp_1_6, fp_1_7, fp_1_8, fp_1_9, fp_1_10, fp_1_11, fp_1_12, fp_1_13, fp_1_14, fp_2_0, fp_2_1, fp_2_2, fp_2_3, fp_3_0, fp_3_1, fp_4_0, fp_4_1, fp_4_2, fp_4_3, fp_4_4, fp_4_5, fp_4_6, fp_4_7, fp_5_0, fp_5_1, fp_5_2, fp_5_3, fp_5_4, fp_5_5, fp_5_6, fp_5_7, fp_6_0, fp_6_1, fp_6_2, fp_6_3, fp_6_4, fp_6_5, fp_6_6, fp_6_7, fp_6_8, fp_6_9, fp_6_10, fp_6_11, fp_6_12, fp_6_13, fp_6_14, fp_6_15, fp_7_0, fp_7_1, fp_7_2, fp_7_3, fp_7_4, fp_7_5, fp_7_6, fp_7_7, fp_7_8, fp_7_9, fp_7_10, fp_7_11, fp_7_12, fp_7_13, fp_7_14, fp_7_15, fp_7_16, fp_7_17, fp_7_18, fp_7_19, fp_7_20, fp_7_21, fp_7_22, fp_7_23, fp_7_24, iz_0_1, iz_0_2, iz_1_8, iz_1_9, iz_1_11, iz_2_1, iz_2_2, iz_2_3, iz_3_1, iz_4_1, iz_4_2, iz_5_0, iz_6_8, iz_6_9, iz_6_13, iz_6_14, iz_6_15, iz_7_2, iz_7_6, iz_7_12, iz_7_20, iz_7_21, iz_7_23, iz_7_24, ak_8, ak_9, ak_10, ak_11, ak_12, ak_13, ak_14, ak_15, ak_16, ak_17, ak_18, ak_19, ak_20, ak_21, ak_22, ak_23, ak_24, ak_25, ak_26, ak_27, ak_28, ak_29, ak_30, ak_31, ak_32, ak_33, ak_34, ak_35, ak_36, ak_37, ak_38, ak_39, ak_40, ak_41, ak_42, ak_43, ak_44, ak_45, ak_46, ak_47, ak_48, ak_49, ak_50, ak_51, ak_52, ak_53, ak_54, ak_55, ak_56, el31, el33, el34, CX5_addOperation, ca_X5_addOperation, frX5, kcX5, klX5, T_X5_append]
      grind (splits := 60) [inR, up]
    · exact h.elim
def ca_X5_operationOf : Nat → Option (Nat × Nat × Tr) := fun _ => none
theorem cao_X5_operationOf (l : Launch) : ∀ k n' ci T', ca_X5_operationOf k = some (n', ci, T') → ∃ nn, nn + 1 ≤ 0 ∧ Site l yX5_operationOf.cls k n' ci nn T' := by
  intro k n' ci T' h
  cases h
def T_X5_operationOf : Tr := fun a σ K => match a with
  | [.inr (.inl (5, i)), .inl j, .inl m] => (0 ≤ j ∧ j < 4 ∧ σ 10 i j ≤ 4) ∧ K (some (opF (σ 11 i) (σ 10 i j) j m)) σ
  | _ => False
set_option maxHeartbeats 4000000 in
set_option maxRecDepth 20000 in
theorem k_X5_operationOf (l : Launch) : Ct l yX5_operationOf cX5_operationOf 4 (some .int) 0 T_X5_operationOf := by
  refine mk_met (by decide +kernel) hCX5_operationOf lCX5_operationOf frX5_ok cstX5_ok (cao_X5_operationOf l) ?_ ?_
  · intro a σ K h
    unfold T_X5_operationOf at h
    split at h
    · simp [eL]
    · exact h.elim
  · intro a σ K ha hR h
    unfold T_X5_operationOf at h
    split at h
    · rename_i i j m
      refine ⟨fun _ => none, 200, fun pc I L S σ' k h => (by cases h), ?_⟩
      simp only [wp, stp, drp, entL, eL, lget, lset, okst, cnd, swt, rcv, Kr_int, Kr_bool, Kr_void, List.length_cons, List.length_nil, List.replicate, List.append_nil, List.cons_append, List.nil_append, List.take_succ_cons, List.take_zero, List.drop_succ_cons, List.drop_zero, List.reverse_cons, List.reverse_nil, Option.map_some, Option.map_none, Option.toList_some, Option.toList_none, Nat.reduceAdd, Nat.reduceSub, Nat.reduceLT, Nat.reduceLeDiff, Nat.reduceEqDiff, ↓reduceIte, Nat.add_zero, Nat.zero_add, true_and, and_true, Nat.le_refl, reduceCtorEq, false_implies, true_implies, not_true_eq_false, not_false_eq_true, Int.reduceAdd, Int.reduceSub, Int.reduceMul, Int.reduceLE, Int.reduceLT, Int.reduceEq, Int.reduceNe, Int.reduceNeg, Int.reduceDiv, Int.reduceMod, Bool.false_eq_true, Int.le_refl, and_self, true_or, or_true, inR_l, fv0, fv1, fv2, fv3, nc2, nc4, nc6, nc16, nc25, nc60, nc65, nc80, nc130, nc384, nc390, fp_0_0, fp_0_1, fp_0_2, fp_1_0, fp_1_1, fp_1_2, fp_1_3, fp_1_4, fp_1_5, fp_1_6, fp_1_7, fp_1_8, fp_1_9, fp_1_10, fp_1_11, fp_1_12, fp_1_13, fp_1_14, fp_2_0, fp_2_1, fp_2_2, fp_2_3, fp_3_0, fp_3_1, fp_4_0, fp_4_1, fp_4_2, fp_4_3, fp_4_4, fp_4_5, fp_4_6, fp_4_7, fp_5_0, fp_5_1, fp_5_2, fp_5_3, fp_5_4, fp_5_5, fp_5_6, fp_5_7, fp_6_0, fp_6_1, fp_6_2, fp_6_3, fp_6_4, fp_6_5, fp_6_6, fp_6_7, fp_6_8, fp_6_9, fp_6_10, fp_6_11, fp_6_12, fp_6_13, fp_6_14, fp_6_15, fp_7_0, fp_7_1, fp_7_2, fp_7_3, fp_7_4, fp_7_5, fp_7_6, fp_7_7, fp_7_8, fp_7_9, fp_7_10, fp_7_11, fp_7_12, fp_7_13, fp_7_14, fp_7_15, fp_7_16, fp_7_17, fp_7_18, fp_7_19, fp_7_20, fp_7_21, fp_7_22, fp_7_23, fp_7_24, iz_0_1, iz_0_2, iz_1_8, iz_1_9, iz_1_11, iz_2_1, iz_2_2, iz_2_3, iz_3_1, iz_4_1, iz_4_2, iz_5_0, iz_6_8, iz_6_9, iz_6_13, iz_6_14, iz_6_15, iz_7_2, iz_7_6, iz_7_12, iz_7_20, iz_7_21, iz_7_23, iz_7_24, ak_8, ak_9, ak_10, ak_11, ak_12, ak_13, ak_14, ak_15, ak_16, ak_17, ak_18, ak_19, ak_20, ak_21, ak_22, ak_23, ak_24, ak_25, ak_26, ak_27, ak_28, ak_29, ak_30, ak_31, ak_32, ak_33, ak_34, ak_35, ak_36, ak_37, ak_38, ak_39, ak_40, ak_41, ak_42, ak_43, ak_44, ak_45, ak_46, ak_47, ak_48, ak_49, ak_50, ak_51, ak_52, ak_53, ak_54, ak_55, ak_56, el31, el33, el34, CX5_operationOf, ca_X5_operationOf, frX5, kcX5, klX5]
      unfold opF at h
      grind (splits := 60) [inR, up]
    · exact h.elim
def ca_X5_exchange : Nat → Option (Nat × Nat × Tr) := fun _ => none
theorem cao_X5_exchange (l : Launch) : ∀ k n' ci T', ca_X5_exchange k = some (n', ci, T') → ∃ nn, nn + 1 ≤ 0 ∧ Site l yX5_exchange.cls k n' ci nn T' := by
  intro k n' ci T' h
  cases h
def T_X5_exchange : Tr := fun a σ K => match a with
  | [.inr (.inl (5, i)), .inl m, .inl x] => (0 ≤ m ∧ m < 4 ∧ 0 ≤ x ∧ x < σ 13 i m - 1 ∧ σ 13 i m ≤ 4) ∧ K none (up (up σ 14 i (4 * m + x) (σ 14 i (4 * m + x + 1))) 14 i (4 * m + x + 1) (σ 14 i (4 * m + x)))
  | _ => False
set_option maxHeartbeats 4000000 in
set_option maxRecDepth 20000 in
theorem k_X5_exchange (l : Launch) : Ct l yX5_exchange cX5_exchange 5 none 0 T_X5_exchange := by
  refine mk_met (by decide +kernel) hCX5_exchange lCX5_exchange frX5_ok cstX5_ok (cao_X5_exchange l) ?_ ?_
  · intro a σ K h
    unfold T_X5_exchange at h
    split at h
    · simp [eL]
    · exact h.elim
  · intro a σ K ha hR h
    unfold T_X5_exchange at h
    split at h
    · rename_i i m x
      refine ⟨fun _ => none, 200, fun pc I L S σ' k h => (by cases h), ?_⟩
      simp only [wp, stp, drp, entL, eL, lget, lset, okst, cnd, swt, rcv, Kr_int, Kr_bool, Kr_void, List.length_cons, List.length_nil, List.replicate, List.append_nil, List.cons_append, List.nil_append, List.take_succ_cons, List.take_zero, List.drop_succ_cons, List.drop_zero, List.reverse_cons, List.reverse_nil, Option.map_some, Option.map_none, Option.toList_some, Option.toList_none, Nat.reduceAdd, Nat.reduceSub, Nat.reduceLT, Nat.reduceLeDiff, Nat.reduceEqDiff, ↓reduceIte, Nat.add_zero, Nat.zero_add, true_and, and_true, Nat.le_refl, reduceCtorEq, false_implies, true_implies, not_true_eq_false, not_false_eq_true, Int.reduceAdd, Int.reduceSub, Int.reduceMul, Int.reduceLE, Int.reduceLT, Int.reduceEq, Int.reduceNe, Int.reduceNeg, Int.reduceDiv, Int.reduceMod, Bool.false_eq_true, Int.le_refl, and_self, true_or, or_true, inR_l, fv0, fv1, fv2, fv3, nc2, nc4, nc6, nc16, nc25, nc60, nc65, nc80, nc130, nc384, nc390, fp_0_0, fp_0_1, fp_0_2, fp_1_0, fp_1_1, fp_1_2, fp_1_3, fp_1_4, fp_1_5, fp_1_6, fp_1_7, fp_1_8, fp_1_9, fp_1_10, fp_1_11, fp_1_12, fp_1_13, fp_1_14, fp_2_0, fp_2_1, fp_2_2, fp_2_3, fp_3_0, fp_3_1, fp_4_0, fp_4_1, fp_4_2, fp_4_3, fp_4_4, fp_4_5, fp_4_6, fp_4_7, fp_5_0, fp_5_1, fp_5_2, fp_5_3, fp_5_4, fp_5_5, fp_5_6, fp_5_7, fp_6_0, fp_6_1, fp_6_2, fp_6_3, fp_6_4, fp_6_5, fp_6_6, fp_6_7, fp_6_8, fp_6_9, fp_6_10, fp_6_11, fp_6_12, fp_6_13, fp_6_14, fp_6_15, fp_7_0, fp_7_1, fp_7_2, fp_7_3, fp_7_4, fp_7_5, fp_7_6, fp_7_7, fp_7_8, fp_7_9, fp_7_10, fp_7_11, fp_7_12, fp_7_13, fp_7_14, fp_7_15, fp_7_16, fp_7_17, fp_7_18, fp_7_19, fp_7_20, fp_7_21, fp_7_22, fp_7_23, fp_7_24, iz_0_1, iz_0_2, iz_1_8, iz_1_9, iz_1_11, iz_2_1, iz_2_2, iz_2_3, iz_3_1, iz_4_1, iz_4_2, iz_5_0, iz_6_8, iz_6_9, iz_6_13, iz_6_14, iz_6_15, iz_7_2, iz_7_6, iz_7_12, iz_7_20, iz_7_21, iz_7_23, iz_7_24, ak_8, ak_9, ak_10, ak_11, ak_12, ak_13, ak_14, ak_15, ak_16, ak_17, ak_18, ak_19, ak_20, ak_21, ak_22, ak_23, ak_24, ak_25, ak_26, ak_27, ak_28, ak_29, ak_30, ak_31, ak_32, ak_33, ak_34, ak_35, ak_36, ak_37, ak_38, ak_39, ak_40, ak_41, ak_42, ak_43, ak_44, ak_45, ak_46, ak_47, ak_48, ak_49, ak_50, ak_51, ak_52, ak_53, ak_54, ak_55, ak_56, el31, el33, el34, CX5_exchange, ca_X5_exchange, frX5, kcX5, klX5]
      grind (splits := 60) [inR, up]
    · exact h.elim
def ca_X1_decide : Nat → Option (Nat × Nat × Tr) := fun _ => none
theorem cao_X1_decide (l : Launch) : ∀ k n' ci T', ca_X1_decide k = some (n', ci, T') → ∃ nn, nn + 1 ≤ 0 ∧ Site l yX1_decide.cls k n' ci nn T' := by
  intro k n' ci T' h
  cases h
def T_X1_decide : Tr := fun a σ K => match a with
  | [.inr (.inl (1, i)), .inl x, .inl y] => (0 ≤ x ∧ x < 16 ∧ 0 ≤ y ∧ y < 16) ∧ K none (up σ 20 i y (bor (σ 20 i y) (bshl 1 (x / 4))))
  | _ => False
set_option maxHeartbeats 4000000 in
set_option maxRecDepth 20000 in
theorem k_X1_decide (l : Launch) : Ct l yX1_decide cX1_decide 3 none 0 T_X1_decide := by
  refine mk_met (by decide +kernel) hCX1_decide lCX1_decide frX1_ok cstX1_ok (cao_X1_decide l) ?_ ?_
  · intro a σ K h
    unfold T_X1_decide at h
    split at h
    · simp [eL]
    · exact h.elim
  · intro a σ K ha hR h
    unfold T_X1_decide at h
    split at h
    · rename_i i x y
      refine ⟨fun _ => none, 200, fun pc I L S σ' k h => (by cases h), ?_⟩
      simp only [wp, stp, drp, entL, eL, lget, lset, okst, cnd, swt, rcv, Kr_int, Kr_bool, Kr_void, List.length_cons, List.length_nil, List.replicate, List.append_nil, List.cons_append, List.nil_append, List.take_succ_cons, List.take_zero, List.drop_succ_cons, List.drop_zero, List.reverse_cons, List.reverse_nil, Option.map_some, Option.map_none, Option.toList_some, Option.toList_none, Nat.reduceAdd, Nat.reduceSub, Nat.reduceLT, Nat.reduceLeDiff, Nat.reduceEqDiff, ↓reduceIte, Nat.add_zero, Nat.zero_add, true_and, and_true, Nat.le_refl, reduceCtorEq, false_implies, true_implies, not_true_eq_false, not_false_eq_true, Int.reduceAdd, Int.reduceSub, Int.reduceMul, Int.reduceLE, Int.reduceLT, Int.reduceEq, Int.reduceNe, Int.reduceNeg, Int.reduceDiv, Int.reduceMod, Bool.false_eq_true, Int.le_refl, and_self, true_or, or_true, inR_l, fv0, fv1, fv2, fv3, nc2, nc4, nc6, nc16, nc25, nc60, nc65, nc80, nc130, nc384, nc390, fp_0_0, fp_0_1, fp_0_2, fp_1_0, fp_1_1, fp_1_2, fp_1_3, fp_1_4, fp_1_5, fp_1_6, fp_1_7, fp_1_8, fp_1_9, fp_1_10, fp_1_11, fp_1_12, fp_1_13, fp_1_14, fp_2_0, fp_2_1, fp_2_2, fp_2_3, fp_3_0, fp_3_1, fp_4_0, fp_4_1, fp_4_2, fp_4_3, fp_4_4, fp_4_5, fp_4_6, fp_4_7, fp_5_0, fp_5_1, fp_5_2, fp_5_3, fp_5_4, fp_5_5, fp_5_6, fp_5_7, fp_6_0, fp_6_1, fp_6_2, fp_6_3, fp_6_4, fp_6_5, fp_6_6, fp_6_7, fp_6_8, fp_6_9, fp_6_10, fp_6_11, fp_6_12, fp_6_13, fp_6_14, fp_6_15, fp_7_0, fp_7_1, fp_7_2, fp_7_3, fp_7_4, fp_7_5, fp_7_6, fp_7_7, fp_7_8, fp_7_9, fp_7_10, fp_7_11, fp_7_12, fp_7_13, fp_7_14, fp_7_15, fp_7_16, fp_7_17, fp_7_18, fp_7_19, fp_7_20, fp_7_21, fp_7_22, fp_7_23, fp_7_24, iz_0_1, iz_0_2, iz_1_8, iz_1_9, iz_1_11, iz_2_1, iz_2_2, iz_2_3, iz_3_1, iz_4_1, iz_4_2, iz_5_0, iz_6_8, iz_6_9, iz_6_13, iz_6_14, iz_6_15, iz_7_2, iz_7_6, iz_7_12, iz_7_20, iz_7_21, iz_7_23, iz_7_24, ak_8, ak_9, ak_10, ak_11, ak_12, ak_13, ak_14, ak_15, ak_16, ak_17, ak_18, ak_19, ak_20, ak_21, ak_22, ak_23, ak_24, ak_25, ak_26, ak_27, ak_28, ak_29, ak_30, ak_31, ak_32, ak_33, ak_34, ak_35, ak_36, ak_37, ak_38, ak_39, ak_40, ak_41, ak_42, ak_43, ak_44, ak_45, ak_46, ak_47, ak_48, ak_49, ak_50, ak_51, ak_52, ak_53, ak_54, ak_55, ak_56, el31, el33, el34, CX1_decide, ca_X1_decide, frX1, kcX1, klX1]
      grind (splits := 60) [inR, up]
    · exact h.elim
def ca_X1_goesAhead : Nat → Option (Nat × Nat × Tr) := fun _ => none
theorem cao_X1_goesAhead (l : Launch) : ∀ k n' ci T', ca_X1_goesAhead k = some (n', ci, T') → ∃ nn, nn + 1 ≤ 0 ∧ Site l yX1_goesAhead.cls k n' ci nn T' := by
  intro k n' ci T' h
  cases h
def T_X1_goesAhead : Tr := fun a σ K => match a with
  | [.inr (.inl (1, i)), .inl x, .inl y] => (0 ≤ x ∧ x < 16 ∧ 0 ≤ y ∧ y < 16) ∧ K (some (if band (bshr (σ 20 i y) (x / 4)) 1 ≠ 0 then 1 else 0)) σ
  | _ => False
set_option maxHeartbeats 4000000 in
set_option maxRecDepth 20000 in
theorem k_X1_goesAhead (l : Launch) : Ct l yX1_goesAhead cX1_goesAhead 3 (some .boolean) 0 T_X1_goesAhead := by
  refine mk_met (by decide +kernel) hCX1_goesAhead lCX1_goesAhead frX1_ok cstX1_ok (cao_X1_goesAhead l) ?_ ?_
  · intro a σ K h
    unfold T_X1_goesAhead at h
    split at h
    · simp [eL]
    · exact h.elim
  · intro a σ K ha hR h
    unfold T_X1_goesAhead at h
    split at h
    · rename_i i x y
      refine ⟨fun _ => none, 200, fun pc I L S σ' k h => (by cases h), ?_⟩
      simp only [wp, stp, drp, entL, eL, lget, lset, okst, cnd, swt, rcv, Kr_int, Kr_bool, Kr_void, List.length_cons, List.length_nil, List.replicate, List.append_nil, List.cons_append, List.nil_append, List.take_succ_cons, List.take_zero, List.drop_succ_cons, List.drop_zero, List.reverse_cons, List.reverse_nil, Option.map_some, Option.map_none, Option.toList_some, Option.toList_none, Nat.reduceAdd, Nat.reduceSub, Nat.reduceLT, Nat.reduceLeDiff, Nat.reduceEqDiff, ↓reduceIte, Nat.add_zero, Nat.zero_add, true_and, and_true, Nat.le_refl, reduceCtorEq, false_implies, true_implies, not_true_eq_false, not_false_eq_true, Int.reduceAdd, Int.reduceSub, Int.reduceMul, Int.reduceLE, Int.reduceLT, Int.reduceEq, Int.reduceNe, Int.reduceNeg, Int.reduceDiv, Int.reduceMod, Bool.false_eq_true, Int.le_refl, and_self, true_or, or_true, inR_l, fv0, fv1, fv2, fv3, nc2, nc4, nc6, nc16, nc25, nc60, nc65, nc80, nc130, nc384, nc390, fp_0_0, fp_0_1, fp_0_2, fp_1_0, fp_1_1, fp_1_2, fp_1_3, fp_1_4, fp_1_5, fp_1_6, fp_1_7, fp_1_8, fp_1_9, fp_1_10, fp_1_11, fp_1_12, fp_1_13, fp_1_14, fp_2_0, fp_2_1, fp_2_2, fp_2_3, fp_3_0, fp_3_1, fp_4_0, fp_4_1, fp_4_2, fp_4_3, fp_4_4, fp_4_5, fp_4_6, fp_4_7, fp_5_0, fp_5_1, fp_5_2, fp_5_3, fp_5_4, fp_5_5, fp_5_6, fp_5_7, fp_6_0, fp_6_1, fp_6_2, fp_6_3, fp_6_4, fp_6_5, fp_6_6, fp_6_7, fp_6_8, fp_6_9, fp_6_10, fp_6_11, fp_6_12, fp_6_13, fp_6_14, fp_6_15, fp_7_0, fp_7_1, fp_7_2, fp_7_3, fp_7_4, fp_7_5, fp_7_6, fp_7_7, fp_7_8, fp_7_9, fp_7_10, fp_7_11, fp_7_12, fp_7_13, fp_7_14, fp_7_15, fp_7_16, fp_7_17, fp_7_18, fp_7_19, fp_7_20, fp_7_21, fp_7_22, fp_7_23, fp_7_24, iz_0_1, iz_0_2, iz_1_8, iz_1_9, iz_1_11, iz_2_1, iz_2_2, iz_2_3, iz_3_1, iz_4_1, iz_4_2, iz_5_0, iz_6_8, iz_6_9, iz_6_13, iz_6_14, iz_6_15, iz_7_2, iz_7_6, iz_7_12, iz_7_20, iz_7_21, iz_7_23, iz_7_24, ak_8, ak_9, ak_10, ak_11, ak_12, ak_13, ak_14, ak_15, ak_16, ak_17, ak_18, ak_19, ak_20, ak_21, ak_22, ak_23, ak_24, ak_25, ak_26, ak_27, ak_28, ak_29, ak_30, ak_31, ak_32, ak_33, ak_34, ak_35, ak_36, ak_37, ak_38, ak_39, ak_40, ak_41, ak_42, ak_43, ak_44, ak_45, ak_46, ak_47, ak_48, ak_49, ak_50, ak_51, ak_52, ak_53, ak_54, ak_55, ak_56, el31, el33, el34, CX1_goesAhead, ca_X1_goesAhead, frX1, kcX1, klX1]
      grind (splits := 60) [inR, up]
    · exact h.elim
def ca_X1_undecided : Nat → Option (Nat × Nat × Tr)
  | 82 => some (3, 1, T_X1_goesAhead)
  | _ => none
theorem cao_X1_undecided (l : Launch) : ∀ k n' ci T', ca_X1_undecided k = some (n', ci, T') → ∃ nn, nn + 1 ≤ 1 ∧ Site l yX1_undecided.cls k n' ci nn T' := by
  intro k n' ci T' h
  unfold ca_X1_undecided at h
  split at h
  · cases h; exact ⟨0, by decide, _, _, _, _, k_X1_goesAhead l, Or.inl ⟨_, rfl, FX1_goesAhead, KRX1_82⟩⟩
  · cases h
def T_X1_undecided : Tr := fun a σ K => match a with
  | [.inr (.inl (1, i)), .inl x, .inl y] => (x < 16 ∧ y < 16) ∧ K (some (if 0 ≤ x ∧ 0 ≤ y ∧ band (bshr (σ 20 i y) (x / 4)) 1 = 0 ∧ band (bshr (σ 20 i x) (y / 4)) 1 = 0 then 1 else 0)) σ
  | _ => False
set_option maxHeartbeats 4000000 in
set_option maxRecDepth 20000 in
theorem k_X1_undecided (l : Launch) : Ct l yX1_undecided cX1_undecided 3 (some .boolean) 1 T_X1_undecided := by
  refine mk_met (by decide +kernel) hCX1_undecided lCX1_undecided frX1_ok cstX1_ok (cao_X1_undecided l) ?_ ?_
  · intro a σ K h
    unfold T_X1_undecided at h
    split at h
    · simp [eL]
    · exact h.elim
  · intro a σ K ha hR h
    unfold T_X1_undecided at h
    split at h
    · rename_i i x y
      refine ⟨fun _ => none, 200, fun pc I L S σ' k h => (by cases h), ?_⟩
      simp only [wp, stp, drp, entL, eL, lget, lset, okst, cnd, swt, rcv, Kr_int, Kr_bool, Kr_void, List.length_cons, List.length_nil, List.replicate, List.append_nil, List.cons_append, List.nil_append, List.take_succ_cons, List.take_zero, List.drop_succ_cons, List.drop_zero, List.reverse_cons, List.reverse_nil, Option.map_some, Option.map_none, Option.toList_some, Option.toList_none, Nat.reduceAdd, Nat.reduceSub, Nat.reduceLT, Nat.reduceLeDiff, Nat.reduceEqDiff, ↓reduceIte, Nat.add_zero, Nat.zero_add, true_and, and_true, Nat.le_refl, reduceCtorEq, false_implies, true_implies, not_true_eq_false, not_false_eq_true, Int.reduceAdd, Int.reduceSub, Int.reduceMul, Int.reduceLE, Int.reduceLT, Int.reduceEq, Int.reduceNe, Int.reduceNeg, Int.reduceDiv, Int.reduceMod, Bool.false_eq_true, Int.le_refl, and_self, true_or, or_true, inR_l, fv0, fv1, fv2, fv3, nc2, nc4, nc6, nc16, nc25, nc60, nc65, nc80, nc130, nc384, nc390, fp_0_0, fp_0_1, fp_0_2, fp_1_0, fp_1_1, fp_1_2, fp_1_3, fp_1_4, fp_1_5, fp_1_6, fp_1_7, fp_1_8, fp_1_9, fp_1_10, fp_1_11, fp_1_12, fp_1_13, fp_1_14, fp_2_0, fp_2_1, fp_2_2, fp_2_3, fp_3_0, fp_3_1, fp_4_0, fp_4_1, fp_4_2, fp_4_3, fp_4_4, fp_4_5, fp_4_6, fp_4_7, fp_5_0, fp_5_1, fp_5_2, fp_5_3, fp_5_4, fp_5_5, fp_5_6, fp_5_7, fp_6_0, fp_6_1, fp_6_2, fp_6_3, fp_6_4, fp_6_5, fp_6_6, fp_6_7, fp_6_8, fp_6_9, fp_6_10, fp_6_11, fp_6_12, fp_6_13, fp_6_14, fp_6_15, fp_7_0, fp_7_1, fp_7_2, fp_7_3, fp_7_4, fp_7_5, fp_7_6, fp_7_7, fp_7_8, fp_7_9, fp_7_10, fp_7_11, fp_7_12, fp_7_13, fp_7_14, fp_7_15, fp_7_16, fp_7_17, fp_7_18, fp_7_19, fp_7_20, fp_7_21, fp_7_22, fp_7_23, fp_7_24, iz_0_1, iz_0_2, iz_1_8, iz_1_9, iz_1_11, iz_2_1, iz_2_2, iz_2_3, iz_3_1, iz_4_1, iz_4_2, iz_5_0, iz_6_8, iz_6_9, iz_6_13, iz_6_14, iz_6_15, iz_7_2, iz_7_6, iz_7_12, iz_7_20, iz_7_21, iz_7_23, iz_7_24, ak_8, ak_9, ak_10, ak_11, ak_12, ak_13, ak_14, ak_15, ak_16, ak_17, ak_18, ak_19, ak_20, ak_21, ak_22, ak_23, ak_24, ak_25, ak_26, ak_27, ak_28, ak_29, ak_30, ak_31, ak_32, ak_33, ak_34, ak_35, ak_36, ak_37, ak_38, ak_39, ak_40, ak_41, ak_42, ak_43, ak_44, ak_45, ak_46, ak_47, ak_48, ak_49, ak_50, ak_51, ak_52, ak_53, ak_54, ak_55, ak_56, el31, el33, el34, CX1_undecided, ca_X1_undecided, frX1, kcX1, klX1, T_X1_goesAhead]
      grind (splits := 60) [inR, up]
    · exact h.elim
def ca_X1_endOf : Nat → Option (Nat × Nat × Tr) := fun _ => none
theorem cao_X1_endOf (l : Launch) : ∀ k n' ci T', ca_X1_endOf k = some (n', ci, T') → ∃ nn, nn + 1 ≤ 0 ∧ Site l yX1_endOf.cls k n' ci nn T' := by
  intro k n' ci T' h
  cases h
def T_X1_endOf : Tr := fun a σ K => match a with
  | [.inr (.inl (1, i)), .inl x] => (0 ≤ x ∧ x < 16 ∧ inR (σ 21 i x + σ 17 i x)) ∧ K (some (σ 21 i x + σ 17 i x)) σ
  | _ => False
set_option maxHeartbeats 4000000 in
set_option maxRecDepth 20000 in
theorem k_X1_endOf (l : Launch) : Ct l yX1_endOf cX1_endOf 2 (some .int) 0 T_X1_endOf := by
  refine mk_met (by decide +kernel) hCX1_endOf lCX1_endOf frX1_ok cstX1_ok (cao_X1_endOf l) ?_ ?_
  · intro a σ K h
    unfold T_X1_endOf at h
    split at h
    · simp [eL]
    · exact h.elim
  · intro a σ K ha hR h
    unfold T_X1_endOf at h
    split at h
    · rename_i i x
      refine ⟨fun _ => none, 200, fun pc I L S σ' k h => (by cases h), ?_⟩
      simp only [wp, stp, drp, entL, eL, lget, lset, okst, cnd, swt, rcv, Kr_int, Kr_bool, Kr_void, List.length_cons, List.length_nil, List.replicate, List.append_nil, List.cons_append, List.nil_append, List.take_succ_cons, List.take_zero, List.drop_succ_cons, List.drop_zero, List.reverse_cons, List.reverse_nil, Option.map_some, Option.map_none, Option.toList_some, Option.toList_none, Nat.reduceAdd, Nat.reduceSub, Nat.reduceLT, Nat.reduceLeDiff, Nat.reduceEqDiff, ↓reduceIte, Nat.add_zero, Nat.zero_add, true_and, and_true, Nat.le_refl, reduceCtorEq, false_implies, true_implies, not_true_eq_false, not_false_eq_true, Int.reduceAdd, Int.reduceSub, Int.reduceMul, Int.reduceLE, Int.reduceLT, Int.reduceEq, Int.reduceNe, Int.reduceNeg, Int.reduceDiv, Int.reduceMod, Bool.false_eq_true, Int.le_refl, and_self, true_or, or_true, inR_l, fv0, fv1, fv2, fv3, nc2, nc4, nc6, nc16, nc25, nc60, nc65, nc80, nc130, nc384, nc390, fp_0_0, fp_0_1, fp_0_2, fp_1_0, fp_1_1, fp_1_2, fp_1_3, fp_1_4, fp_1_5, fp_1_6, fp_1_7, fp_1_8, fp_1_9, fp_1_10, fp_1_11, fp_1_12, fp_1_13, fp_1_14, fp_2_0, fp_2_1, fp_2_2, fp_2_3, fp_3_0, fp_3_1, fp_4_0, fp_4_1, fp_4_2, fp_4_3, fp_4_4, fp_4_5, fp_4_6, fp_4_7, fp_5_0, fp_5_1, fp_5_2, fp_5_3, fp_5_4, fp_5_5, fp_5_6, fp_5_7, fp_6_0, fp_6_1, fp_6_2, fp_6_3, fp_6_4, fp_6_5, fp_6_6, fp_6_7, fp_6_8, fp_6_9, fp_6_10, fp_6_11, fp_6_12, fp_6_13, fp_6_14, fp_6_15, fp_7_0, fp_7_1, fp_7_2, fp_7_3, fp_7_4, fp_7_5, fp_7_6, fp_7_7, fp_7_8, fp_7_9, fp_7_10, fp_7_11, fp_7_12, fp_7_13, fp_7_14, fp_7_15, fp_7_16, fp_7_17, fp_7_18, fp_7_19, fp_7_20, fp_7_21, fp_7_22, fp_7_23, fp_7_24, iz_0_1, iz_0_2, iz_1_8, iz_1_9, iz_1_11, iz_2_1, iz_2_2, iz_2_3, iz_3_1, iz_4_1, iz_4_2, iz_5_0, iz_6_8, iz_6_9, iz_6_13, iz_6_14, iz_6_15, iz_7_2, iz_7_6, iz_7_12, iz_7_20, iz_7_21, iz_7_23, iz_7_24, ak_8, ak_9, ak_10, ak_11, ak_12, ak_13, ak_14, ak_15, ak_16, ak_17, ak_18, ak_19, ak_20, ak_21, ak_22, ak_23, ak_24, ak_25, ak_26, ak_27, ak_28, ak_29, ak_30, ak_31, ak_32, ak_33, ak_34, ak_35, ak_36, ak_37, ak_38, ak_39, ak_40, ak_41, ak_42, ak_43, ak_44, ak_45, ak_46, ak_47, ak_48, ak_49, ak_50, ak_51, ak_52, ak_53, ak_54, ak_55, ak_56, el31, el33, el34, CX1_endOf, ca_X1_endOf, frX1, kcX1, klX1]
      grind (splits := 60) [inR, up]
    · exact h.elim
def ca_X1_wayThrough : Nat → Option (Nat × Nat × Tr)
  | 86 => some (2, 1, T_X1_endOf)
  | _ => none
theorem cao_X1_wayThrough (l : Launch) : ∀ k n' ci T', ca_X1_wayThrough k = some (n', ci, T') → ∃ nn, nn + 1 ≤ 1 ∧ Site l yX1_wayThrough.cls k n' ci nn T' := by
  intro k n' ci T' h
  unfold ca_X1_wayThrough at h
  split at h
  · cases h; exact ⟨0, by decide, _, _, _, _, k_X1_endOf l, Or.inl ⟨_, rfl, FX1_endOf, KRX1_86⟩⟩
  · cases h
def T_X1_wayThrough : Tr := fun a σ K => match a with
  | [.inr (.inl (1, i)), .inl x, .inl y] => (0 ≤ x ∧ x < 16 ∧ 0 ≤ y ∧ y < 16 ∧ inR (σ 21 i x + σ 17 i x) ∧ inR (σ 21 i x + σ 17 i x + σ 17 i y) ∧ inR (σ 21 i x + σ 17 i x + σ 17 i y + σ 22 i y)) ∧ K (some (σ 21 i x + σ 17 i x + σ 17 i y + σ 22 i y)) σ
  | _ => False
set_option maxHeartbeats 4000000 in
set_option maxRecDepth 20000 in
theorem k_X1_wayThrough (l : Launch) : Ct l yX1_wayThrough cX1_wayThrough 3 (some .int) 1 T_X1_wayThrough := by
  refine mk_met (by decide +kernel) hCX1_wayThrough lCX1_wayThrough frX1_ok cstX1_ok (cao_X1_wayThrough l) ?_ ?_
  · intro a σ K h
    unfold T_X1_wayThrough at h
    split at h
    · simp [eL]
    · exact h.elim
  · intro a σ K ha hR h
    unfold T_X1_wayThrough at h
    split at h
    · rename_i i x y
      refine ⟨fun _ => none, 200, fun pc I L S σ' k h => (by cases h), ?_⟩
      simp only [wp, stp, drp, entL, eL, lget, lset, okst, cnd, swt, rcv, Kr_int, Kr_bool, Kr_void, List.length_cons, List.length_nil, List.replicate, List.append_nil, List.cons_append, List.nil_append, List.take_succ_cons, List.take_zero, List.drop_succ_cons, List.drop_zero, List.reverse_cons, List.reverse_nil, Option.map_some, Option.map_none, Option.toList_some, Option.toList_none, Nat.reduceAdd, Nat.reduceSub, Nat.reduceLT, Nat.reduceLeDiff, Nat.reduceEqDiff, ↓reduceIte, Nat.add_zero, Nat.zero_add, true_and, and_true, Nat.le_refl, reduceCtorEq, false_implies, true_implies, not_true_eq_false, not_false_eq_true, Int.reduceAdd, Int.reduceSub, Int.reduceMul, Int.reduceLE, Int.reduceLT, Int.reduceEq, Int.reduceNe, Int.reduceNeg, Int.reduceDiv, Int.reduceMod, Bool.false_eq_true, Int.le_refl, and_self, true_or, or_true, inR_l, fv0, fv1, fv2, fv3, nc2, nc4, nc6, nc16, nc25, nc60, nc65, nc80, nc130, nc384, nc390, fp_0_0, fp_0_1, fp_0_2, fp_1_0, fp_1_1, fp_1_2, fp_1_3, fp_1_4, fp_1_5, fp_1_6, fp_1_7, fp_1_8, fp_1_9, fp_1_10, fp_1_11, fp_1_12, fp_1_13, fp_1_14, fp_2_0, fp_2_1, fp_2_2, fp_2_3, fp_3_0, fp_3_1, fp_4_0, fp_4_1, fp_4_2, fp_4_3, fp_4_4, fp_4_5, fp_4_6, fp_4_7, fp_5_0, fp_5_1, fp_5_2, fp_5_3, fp_5_4, fp_5_5, fp_5_6, fp_5_7, fp_6_0, fp_6_1, fp_6_2, fp_6_3, fp_6_4, fp_6_5, fp_6_6, fp_6_7, fp_6_8, fp_6_9, fp_6_10, fp_6_11, fp_6_12, fp_6_13, fp_6_14, fp_6_15, fp_7_0, fp_7_1, fp_7_2, fp_7_3, fp_7_4, fp_7_5, fp_7_6, fp_7_7, fp_7_8, fp_7_9, fp_7_10, fp_7_11, fp_7_12, fp_7_13, fp_7_14, fp_7_15, fp_7_16, fp_7_17, fp_7_18, fp_7_19, fp_7_20, fp_7_21, fp_7_22, fp_7_23, fp_7_24, iz_0_1, iz_0_2, iz_1_8, iz_1_9, iz_1_11, iz_2_1, iz_2_2, iz_2_3, iz_3_1, iz_4_1, iz_4_2, iz_5_0, iz_6_8, iz_6_9, iz_6_13, iz_6_14, iz_6_15, iz_7_2, iz_7_6, iz_7_12, iz_7_20, iz_7_21, iz_7_23, iz_7_24, ak_8, ak_9, ak_10, ak_11, ak_12, ak_13, ak_14, ak_15, ak_16, ak_17, ak_18, ak_19, ak_20, ak_21, ak_22, ak_23, ak_24, ak_25, ak_26, ak_27, ak_28, ak_29, ak_30, ak_31, ak_32, ak_33, ak_34, ak_35, ak_36, ak_37, ak_38, ak_39, ak_40, ak_41, ak_42, ak_43, ak_44, ak_45, ak_46, ak_47, ak_48, ak_49, ak_50, ak_51, ak_52, ak_53, ak_54, ak_55, ak_56, el31, el33, el34, CX1_wayThrough, ca_X1_wayThrough, frX1, kcX1, klX1, T_X1_endOf]
      grind (splits := 60) [inR, up]
    · exact h.elim
def ca_X1_slackOf : Nat → Option (Nat × Nat × Tr)
  | 86 => some (2, 1, T_X1_endOf)
  | _ => none
theorem cao_X1_slackOf (l : Launch) : ∀ k n' ci T', ca_X1_slackOf k = some (n', ci, T') → ∃ nn, nn + 1 ≤ 1 ∧ Site l yX1_slackOf.cls k n' ci nn T' := by
  intro k n' ci T' h
  unfold ca_X1_slackOf at h
  split at h
  · cases h; exact ⟨0, by decide, _, _, _, _, k_X1_endOf l, Or.inl ⟨_, rfl, FX1_endOf, KRX1_86⟩⟩
  · cases h
def T_X1_slackOf : Tr := fun a σ K => match a with
  | [.inr (.inl (1, i)), .inl x] => (0 ≤ x ∧ x < 16 ∧ inR (σ 21 i x + σ 17 i x) ∧ inR (σ 21 i x + σ 17 i x + σ 22 i x) ∧ inR (σ 1 i 8 - (σ 21 i x + σ 17 i x + σ 22 i x))) ∧ K (some (σ 1 i 8 - (σ 21 i x + σ 17 i x + σ 22 i x))) σ
  | _ => False
set_option maxHeartbeats 4000000 in
set_option maxRecDepth 20000 in
theorem k_X1_slackOf (l : Launch) : Ct l yX1_slackOf cX1_slackOf 2 (some .int) 1 T_X1_slackOf := by
  refine mk_met (by decide +kernel) hCX1_slackOf lCX1_slackOf frX1_ok cstX1_ok (cao_X1_slackOf l) ?_ ?_
  · intro a σ K h
    unfold T_X1_slackOf at h
    split at h
    · simp [eL]
    · exact h.elim
  · intro a σ K ha hR h
    unfold T_X1_slackOf at h
    split at h
    · rename_i i x
      refine ⟨fun _ => none, 200, fun pc I L S σ' k h => (by cases h), ?_⟩
      simp only [wp, stp, drp, entL, eL, lget, lset, okst, cnd, swt, rcv, Kr_int, Kr_bool, Kr_void, List.length_cons, List.length_nil, List.replicate, List.append_nil, List.cons_append, List.nil_append, List.take_succ_cons, List.take_zero, List.drop_succ_cons, List.drop_zero, List.reverse_cons, List.reverse_nil, Option.map_some, Option.map_none, Option.toList_some, Option.toList_none, Nat.reduceAdd, Nat.reduceSub, Nat.reduceLT, Nat.reduceLeDiff, Nat.reduceEqDiff, ↓reduceIte, Nat.add_zero, Nat.zero_add, true_and, and_true, Nat.le_refl, reduceCtorEq, false_implies, true_implies, not_true_eq_false, not_false_eq_true, Int.reduceAdd, Int.reduceSub, Int.reduceMul, Int.reduceLE, Int.reduceLT, Int.reduceEq, Int.reduceNe, Int.reduceNeg, Int.reduceDiv, Int.reduceMod, Bool.false_eq_true, Int.le_refl, and_self, true_or, or_true, inR_l, fv0, fv1, fv2, fv3, nc2, nc4, nc6, nc16, nc25, nc60, nc65, nc80, nc130, nc384, nc390, fp_0_0, fp_0_1, fp_0_2, fp_1_0, fp_1_1, fp_1_2, fp_1_3, fp_1_4, fp_1_5, fp_1_6, fp_1_7, fp_1_8, fp_1_9, fp_1_10, fp_1_11, fp_1_12, fp_1_13, fp_1_14, fp_2_0, fp_2_1, fp_2_2, fp_2_3, fp_3_0, fp_3_1, fp_4_0, fp_4_1, fp_4_2, fp_4_3, fp_4_4, fp_4_5, fp_4_6, fp_4_7, fp_5_0, fp_5_1, fp_5_2, fp_5_3, fp_5_4, fp_5_5, fp_5_6, fp_5_7, fp_6_0, fp_6_1, fp_6_2, fp_6_3, fp_6_4, fp_6_5, fp_6_6, fp_6_7, fp_6_8, fp_6_9, fp_6_10, fp_6_11, fp_6_12, fp_6_13, fp_6_14, fp_6_15, fp_7_0, fp_7_1, fp_7_2, fp_7_3, fp_7_4, fp_7_5, fp_7_6, fp_7_7, fp_7_8, fp_7_9, fp_7_10, fp_7_11, fp_7_12, fp_7_13, fp_7_14, fp_7_15, fp_7_16, fp_7_17, fp_7_18, fp_7_19, fp_7_20, fp_7_21, fp_7_22, fp_7_23, fp_7_24, iz_0_1, iz_0_2, iz_1_8, iz_1_9, iz_1_11, iz_2_1, iz_2_2, iz_2_3, iz_3_1, iz_4_1, iz_4_2, iz_5_0, iz_6_8, iz_6_9, iz_6_13, iz_6_14, iz_6_15, iz_7_2, iz_7_6, iz_7_12, iz_7_20, iz_7_21, iz_7_23, iz_7_24, ak_8, ak_9, ak_10, ak_11, ak_12, ak_13, ak_14, ak_15, ak_16, ak_17, ak_18, ak_19, ak_20, ak_21, ak_22, ak_23, ak_24, ak_25, ak_26, ak_27, ak_28, ak_29, ak_30, ak_31, ak_32, ak_33, ak_34, ak_35, ak_36, ak_37, ak_38, ak_39, ak_40, ak_41, ak_42, ak_43, ak_44, ak_45, ak_46, ak_47, ak_48, ak_49, ak_50, ak_51, ak_52, ak_53, ak_54, ak_55, ak_56, el31, el33, el34, CX1_slackOf, ca_X1_slackOf, frX1, kcX1, klX1, T_X1_endOf]
      grind (splits := 60) [inR, up]
    · exact h.elim
def ca_X1_holdBack : Nat → Option (Nat × Nat × Tr) := fun _ => none
theorem cao_X1_holdBack (l : Launch) : ∀ k n' ci T', ca_X1_holdBack k = some (n', ci, T') → ∃ nn, nn + 1 ≤ 0 ∧ Site l yX1_holdBack.cls k n' ci nn T' := by
  intro k n' ci T' h
  cases h
def T_X1_holdBack : Tr := fun a σ K => match a with
  | [.inr (.inl (1, i)), .inl x, .inl t] => K none (if 0 ≤ x ∧ x < 16 ∧ σ 18 i x < t then up σ 18 i x t else σ)
  | _ => False
set_option maxHeartbeats 4000000 in
set_option maxRecDepth 20000 in
theorem k_X1_holdBack (l : Launch) : Ct l yX1_holdBack cX1_holdBack 3 none 0 T_X1_holdBack := by
  refine mk_met (by decide +kernel) hCX1_holdBack lCX1_holdBack frX1_ok cstX1_ok (cao_X1_holdBack l) ?_ ?_
  · intro a σ K h
    unfold T_X1_holdBack at h
    split at h
    · simp [eL]
    · exact h.elim
  · intro a σ K ha hR h
    unfold T_X1_holdBack at h
    split at h
    · rename_i i x t
      refine ⟨fun _ => none, 200, fun pc I L S σ' k h => (by cases h), ?_⟩
      simp only [wp, stp, drp, entL, eL, lget, lset, okst, cnd, swt, rcv, Kr_int, Kr_bool, Kr_void, List.length_cons, List.length_nil, List.replicate, List.append_nil, List.cons_append, List.nil_append, List.take_succ_cons, List.take_zero, List.drop_succ_cons, List.drop_zero, List.reverse_cons, List.reverse_nil, Option.map_some, Option.map_none, Option.toList_some, Option.toList_none, Nat.reduceAdd, Nat.reduceSub, Nat.reduceLT, Nat.reduceLeDiff, Nat.reduceEqDiff, ↓reduceIte, Nat.add_zero, Nat.zero_add, true_and, and_true, Nat.le_refl, reduceCtorEq, false_implies, true_implies, not_true_eq_false, not_false_eq_true, Int.reduceAdd, Int.reduceSub, Int.reduceMul, Int.reduceLE, Int.reduceLT, Int.reduceEq, Int.reduceNe, Int.reduceNeg, Int.reduceDiv, Int.reduceMod, Bool.false_eq_true, Int.le_refl, and_self, true_or, or_true, inR_l, fv0, fv1, fv2, fv3, nc2, nc4, nc6, nc16, nc25, nc60, nc65, nc80, nc130, nc384, nc390, fp_0_0, fp_0_1, fp_0_2, fp_1_0, fp_1_1, fp_1_2, fp_1_3, fp_1_4, fp_1_5, fp_1_6, fp_1_7, fp_1_8, fp_1_9, fp_1_10, fp_1_11, fp_1_12, fp_1_13, fp_1_14, fp_2_0, fp_2_1, fp_2_2, fp_2_3, fp_3_0, fp_3_1, fp_4_0, fp_4_1, fp_4_2, fp_4_3, fp_4_4, fp_4_5, fp_4_6, fp_4_7, fp_5_0, fp_5_1, fp_5_2, fp_5_3, fp_5_4, fp_5_5, fp_5_6, fp_5_7, fp_6_0, fp_6_1, fp_6_2, fp_6_3, fp_6_4, fp_6_5, fp_6_6, fp_6_7, fp_6_8, fp_6_9, fp_6_10, fp_6_11, fp_6_12, fp_6_13, fp_6_14, fp_6_15, fp_7_0, fp_7_1, fp_7_2, fp_7_3, fp_7_4, fp_7_5, fp_7_6, fp_7_7, fp_7_8, fp_7_9, fp_7_10, fp_7_11, fp_7_12, fp_7_13, fp_7_14, fp_7_15, fp_7_16, fp_7_17, fp_7_18, fp_7_19, fp_7_20, fp_7_21, fp_7_22, fp_7_23, fp_7_24, iz_0_1, iz_0_2, iz_1_8, iz_1_9, iz_1_11, iz_2_1, iz_2_2, iz_2_3, iz_3_1, iz_4_1, iz_4_2, iz_5_0, iz_6_8, iz_6_9, iz_6_13, iz_6_14, iz_6_15, iz_7_2, iz_7_6, iz_7_12, iz_7_20, iz_7_21, iz_7_23, iz_7_24, ak_8, ak_9, ak_10, ak_11, ak_12, ak_13, ak_14, ak_15, ak_16, ak_17, ak_18, ak_19, ak_20, ak_21, ak_22, ak_23, ak_24, ak_25, ak_26, ak_27, ak_28, ak_29, ak_30, ak_31, ak_32, ak_33, ak_34, ak_35, ak_36, ak_37, ak_38, ak_39, ak_40, ak_41, ak_42, ak_43, ak_44, ak_45, ak_46, ak_47, ak_48, ak_49, ak_50, ak_51, ak_52, ak_53, ak_54, ak_55, ak_56, el31, el33, el34, CX1_holdBack, ca_X1_holdBack, frX1, kcX1, klX1]
      grind (splits := 60) [inR, up]
    · exact h.elim
def ca_X2_append : Nat → Option (Nat × Nat × Tr) := fun _ => none
theorem cao_X2_append (l : Launch) : ∀ k n' ci T', ca_X2_append k = some (n', ci, T') → ∃ nn, nn + 1 ≤ 0 ∧ Site l yX2_append.cls k n' ci nn T' := by
  intro k n' ci T' h
  cases h
def T_X2_append : Tr := fun a σ K => match a with
  | [.inr (.inl (2, 0)), .inl c] => (0 ≤ c ∧ c < 65536 ∧ 0 ≤ σ 2 0 1) ∧ K none (if σ 2 0 1 < 80 then up (up σ 36 0 (σ 2 0 1) c) 2 0 1 (σ 2 0 1 + 1) else σ)
  | _ => False
set_option maxHeartbeats 4000000 in
set_option maxRecDepth 20000 in
theorem k_X2_append (l : Launch) : Ct l yX2_append cX2_append 2 none 0 T_X2_append := by
  refine mk_met (by decide +kernel) hCX2_append lCX2_append frX2_ok cstX2_ok (cao_X2_append l) ?_ ?_
  · intro a σ K h
    unfold T_X2_append at h
    split at h
    · simp [eL]
    · exact h.elim
  · intro a σ K ha hR h
    unfold T_X2_append at h
    split at h
    · rename_i c
      refine ⟨fun _ => none, 200, fun pc I L S σ' k h => (by cases h), ?_⟩
      simp only [wp, stp, drp, entL, eL, lget, lset, okst, cnd, swt, rcv, Kr_int, Kr_bool, Kr_void, List.length_cons, List.length_nil, List.replicate, List.append_nil, List.cons_append, List.nil_append, List.take_succ_cons, List.take_zero, List.drop_succ_cons, List.drop_zero, List.reverse_cons, List.reverse_nil, Option.map_some, Option.map_none, Option.toList_some, Option.toList_none, Nat.reduceAdd, Nat.reduceSub, Nat.reduceLT, Nat.reduceLeDiff, Nat.reduceEqDiff, ↓reduceIte, Nat.add_zero, Nat.zero_add, true_and, and_true, Nat.le_refl, reduceCtorEq, false_implies, true_implies, not_true_eq_false, not_false_eq_true, Int.reduceAdd, Int.reduceSub, Int.reduceMul, Int.reduceLE, Int.reduceLT, Int.reduceEq, Int.reduceNe, Int.reduceNeg, Int.reduceDiv, Int.reduceMod, Bool.false_eq_true, Int.le_refl, and_self, true_or, or_true, inR_l, fv0, fv1, fv2, fv3, nc2, nc4, nc6, nc16, nc25, nc60, nc65, nc80, nc130, nc384, nc390, fp_0_0, fp_0_1, fp_0_2, fp_1_0, fp_1_1, fp_1_2, fp_1_3, fp_1_4, fp_1_5, fp_1_6, fp_1_7, fp_1_8, fp_1_9, fp_1_10, fp_1_11, fp_1_12, fp_1_13, fp_1_14, fp_2_0, fp_2_1, fp_2_2, fp_2_3, fp_3_0, fp_3_1, fp_4_0, fp_4_1, fp_4_2, fp_4_3, fp_4_4, fp_4_5, fp_4_6, fp_4_7, fp_5_0, fp_5_1, fp_5_2, fp_5_3, fp_5_4, fp_5_5, fp_5_6, fp_5_7, fp_6_0, fp_6_1, fp_6_2, fp_6_3, fp_6_4, fp_6_5, fp_6_6, fp_6_7, fp_6_8, fp_6_9, fp_6_10, fp_6_11, fp_6_12, fp_6_13, fp_6_14, fp_6_15, fp_7_0, fp_7_1, fp_7_2, fp_7_3, fp_7_4, fp_7_5, fp_7_6, fp_7_7, fp_7_8, fp_7_9, fp_7_10, fp_7_11, fp_7_12, fp_7_13, fp_7_14, fp_7_15, fp_7_16, fp_7_17, fp_7_18, fp_7_19, fp_7_20, fp_7_21, fp_7_22, fp_7_23, fp_7_24, iz_0_1, iz_0_2, iz_1_8, iz_1_9, iz_1_11, iz_2_1, iz_2_2, iz_2_3, iz_3_1, iz_4_1, iz_4_2, iz_5_0, iz_6_8, iz_6_9, iz_6_13, iz_6_14, iz_6_15, iz_7_2, iz_7_6, iz_7_12, iz_7_20, iz_7_21, iz_7_23, iz_7_24, ak_8, ak_9, ak_10, ak_11, ak_12, ak_13, ak_14, ak_15, ak_16, ak_17, ak_18, ak_19, ak_20, ak_21, ak_22, ak_23, ak_24, ak_25, ak_26, ak_27, ak_28, ak_29, ak_30, ak_31, ak_32, ak_33, ak_34, ak_35, ak_36, ak_37, ak_38, ak_39, ak_40, ak_41, ak_42, ak_43, ak_44, ak_45, ak_46, ak_47, ak_48, ak_49, ak_50, ak_51, ak_52, ak_53, ak_54, ak_55, ak_56, el31, el33, el34, CX2_append, ca_X2_append, frX2, kcX2, klX2]
      grind (splits := 60) [inR, up]
    · exact h.elim
def ca_X2_names : Nat → Option (Nat × Nat × Tr) := fun _ => none
theorem cao_X2_names (l : Launch) : ∀ k n' ci T', ca_X2_names k = some (n', ci, T') → ∃ nn, nn + 1 ≤ 0 ∧ Site l yX2_names.cls k n' ci nn T' := by
  intro k n' ci T' h
  cases h
def T_X2_names : Tr := fun a σ K => match a with
  | [.inr (.inl (2, 0)), .inl m] => K (some (if band (bshr (σ 2 0 3) m) 1 ≠ 0 then 1 else 0)) σ
  | _ => False
set_option maxHeartbeats 4000000 in
set_option maxRecDepth 20000 in
theorem k_X2_names (l : Launch) : Ct l yX2_names cX2_names 2 (some .boolean) 0 T_X2_names := by
  refine mk_met (by decide +kernel) hCX2_names lCX2_names frX2_ok cstX2_ok (cao_X2_names l) ?_ ?_
  · intro a σ K h
    unfold T_X2_names at h
    split at h
    · simp [eL]
    · exact h.elim
  · intro a σ K ha hR h
    unfold T_X2_names at h
    split at h
    · rename_i m
      refine ⟨fun _ => none, 200, fun pc I L S σ' k h => (by cases h), ?_⟩
      simp only [wp, stp, drp, entL, eL, lget, lset, okst, cnd, swt, rcv, Kr_int, Kr_bool, Kr_void, List.length_cons, List.length_nil, List.replicate, List.append_nil, List.cons_append, List.nil_append, List.take_succ_cons, List.take_zero, List.drop_succ_cons, List.drop_zero, List.reverse_cons, List.reverse_nil, Option.map_some, Option.map_none, Option.toList_some, Option.toList_none, Nat.reduceAdd, Nat.reduceSub, Nat.reduceLT, Nat.reduceLeDiff, Nat.reduceEqDiff, ↓reduceIte, Nat.add_zero, Nat.zero_add, true_and, and_true, Nat.le_refl, reduceCtorEq, false_implies, true_implies, not_true_eq_false, not_false_eq_true, Int.reduceAdd, Int.reduceSub, Int.reduceMul, Int.reduceLE, Int.reduceLT, Int.reduceEq, Int.reduceNe, Int.reduceNeg, Int.reduceDiv, Int.reduceMod, Bool.false_eq_true, Int.le_refl, and_self, true_or, or_true, inR_l, fv0, fv1, fv2, fv3, nc2, nc4, nc6, nc16, nc25, nc60, nc65, nc80, nc130, nc384, nc390, fp_0_0, fp_0_1, fp_0_2, fp_1_0, fp_1_1, fp_1_2, fp_1_3, fp_1_4, fp_1_5, fp_1_6, fp_1_7, fp_1_8, fp_1_9, fp_1_10, fp_1_11, fp_1_12, fp_1_13, fp_1_14, fp_2_0, fp_2_1, fp_2_2, fp_2_3, fp_3_0, fp_3_1, fp_4_0, fp_4_1, fp_4_2, fp_4_3, fp_4_4, fp_4_5, fp_4_6, fp_4_7, fp_5_0, fp_5_1, fp_5_2, fp_5_3, fp_5_4, fp_5_5, fp_5_6, fp_5_7, fp_6_0, fp_6_1, fp_6_2, fp_6_3, fp_6_4, fp_6_5, fp_6_6, fp_6_7, fp_6_8, fp_6_9, fp_6_10, fp_6_11, fp_6_12, fp_6_13, fp_6_14, fp_6_15, fp_7_0, fp_7_1, fp_7_2, fp_7_3, fp_7_4, fp_7_5, fp_7_6, fp_7_7, fp_7_8, fp_7_9, fp_7_10, fp_7_11, fp_7_12, fp_7_13, fp_7_14, fp_7_15, fp_7_16, fp_7_17, fp_7_18, fp_7_19, fp_7_20, fp_7_21, fp_7_22, fp_7_23, fp_7_24, iz_0_1, iz_0_2, iz_1_8, iz_1_9, iz_1_11, iz_2_1, iz_2_2, iz_2_3, iz_3_1, iz_4_1, iz_4_2, iz_5_0, iz_6_8, iz_6_9, iz_6_13, iz_6_14, iz_6_15, iz_7_2, iz_7_6, iz_7_12, iz_7_20, iz_7_21, iz_7_23, iz_7_24, ak_8, ak_9, ak_10, ak_11, ak_12, ak_13, ak_14, ak_15, ak_16, ak_17, ak_18, ak_19, ak_20, ak_21, ak_22, ak_23, ak_24, ak_25, ak_26, ak_27, ak_28, ak_29, ak_30, ak_31, ak_32, ak_33, ak_34, ak_35, ak_36, ak_37, ak_38, ak_39, ak_40, ak_41, ak_42, ak_43, ak_44, ak_45, ak_46, ak_47, ak_48, ak_49, ak_50, ak_51, ak_52, ak_53, ak_54, ak_55, ak_56, el31, el33, el34, CX2_names, ca_X2_names, frX2, kcX2, klX2]
      grind (splits := 60) [inR, up]
    · exact h.elim
def ca_X2_take : Nat → Option (Nat × Nat × Tr) := fun _ => none
theorem cao_X2_take (l : Launch) : ∀ k n' ci T', ca_X2_take k = some (n', ci, T') → ∃ nn, nn + 1 ≤ 0 ∧ Site l yX2_take.cls k n' ci nn T' := by
  intro k n' ci T' h
  cases h
def T_X2_take : Tr := fun a σ K => match a with
  | [.inr (.inl (2, 0)), .inl c] => (0 ≤ σ 2 0 2) ∧ K (some (if σ 2 0 2 < σ 2 0 1 ∧ σ 2 0 2 < 80 ∧ σ 36 0 (σ 2 0 2) = c then 1 else 0)) (if σ 2 0 2 < σ 2 0 1 ∧ σ 2 0 2 < 80 ∧ σ 36 0 (σ 2 0 2) = c then up σ 2 0 2 (σ 2 0 2 + 1) else σ)
  | _ => False
set_option maxHeartbeats 4000000 in
set_option maxRecDepth 20000 in
theorem k_X2_take (l : Launch) : Ct l yX2_take cX2_take 2 (some .boolean) 0 T_X2_take := by
  refine mk_met (by decide +kernel) hCX2_take lCX2_take frX2_ok cstX2_ok (cao_X2_take l) ?_ ?_
  · intro a σ K h
    unfold T_X2_take at h
    split at h
    · simp [eL]
    · exact h.elim
  · intro a σ K ha hR h
    unfold T_X2_take at h
    split at h
    · rename_i c
      refine ⟨fun _ => none, 200, fun pc I L S σ' k h => (by cases h), ?_⟩
      simp only [wp, stp, drp, entL, eL, lget, lset, okst, cnd, swt, rcv, Kr_int, Kr_bool, Kr_void, List.length_cons, List.length_nil, List.replicate, List.append_nil, List.cons_append, List.nil_append, List.take_succ_cons, List.take_zero, List.drop_succ_cons, List.drop_zero, List.reverse_cons, List.reverse_nil, Option.map_some, Option.map_none, Option.toList_some, Option.toList_none, Nat.reduceAdd, Nat.reduceSub, Nat.reduceLT, Nat.reduceLeDiff, Nat.reduceEqDiff, ↓reduceIte, Nat.add_zero, Nat.zero_add, true_and, and_true, Nat.le_refl, reduceCtorEq, false_implies, true_implies, not_true_eq_false, not_false_eq_true, Int.reduceAdd, Int.reduceSub, Int.reduceMul, Int.reduceLE, Int.reduceLT, Int.reduceEq, Int.reduceNe, Int.reduceNeg, Int.reduceDiv, Int.reduceMod, Bool.false_eq_true, Int.le_refl, and_self, true_or, or_true, inR_l, fv0, fv1, fv2, fv3, nc2, nc4, nc6, nc16, nc25, nc60, nc65, nc80, nc130, nc384, nc390, fp_0_0, fp_0_1, fp_0_2, fp_1_0, fp_1_1, fp_1_2, fp_1_3, fp_1_4, fp_1_5, fp_1_6, fp_1_7, fp_1_8, fp_1_9, fp_1_10, fp_1_11, fp_1_12, fp_1_13, fp_1_14, fp_2_0, fp_2_1, fp_2_2, fp_2_3, fp_3_0, fp_3_1, fp_4_0, fp_4_1, fp_4_2, fp_4_3, fp_4_4, fp_4_5, fp_4_6, fp_4_7, fp_5_0, fp_5_1, fp_5_2, fp_5_3, fp_5_4, fp_5_5, fp_5_6, fp_5_7, fp_6_0, fp_6_1, fp_6_2, fp_6_3, fp_6_4, fp_6_5, fp_6_6, fp_6_7, fp_6_8, fp_6_9, fp_6_10, fp_6_11, fp_6_12, fp_6_13, fp_6_14, fp_6_15, fp_7_0, fp_7_1, fp_7_2, fp_7_3, fp_7_4, fp_7_5, fp_7_6, fp_7_7, fp_7_8, fp_7_9, fp_7_10, fp_7_11, fp_7_12, fp_7_13, fp_7_14, fp_7_15, fp_7_16, fp_7_17, fp_7_18, fp_7_19, fp_7_20, fp_7_21, fp_7_22, fp_7_23, fp_7_24, iz_0_1, iz_0_2, iz_1_8, iz_1_9, iz_1_11, iz_2_1, iz_2_2, iz_2_3, iz_3_1, iz_4_1, iz_4_2, iz_5_0, iz_6_8, iz_6_9, iz_6_13, iz_6_14, iz_6_15, iz_7_2, iz_7_6, iz_7_12, iz_7_20, iz_7_21, iz_7_23, iz_7_24, ak_8, ak_9, ak_10, ak_11, ak_12, ak_13, ak_14, ak_15, ak_16, ak_17, ak_18, ak_19, ak_20, ak_21, ak_22, ak_23, ak_24, ak_25, ak_26, ak_27, ak_28, ak_29, ak_30, ak_31, ak_32, ak_33, ak_34, ak_35, ak_36, ak_37, ak_38, ak_39, ak_40, ak_41, ak_42, ak_43, ak_44, ak_45, ak_46, ak_47, ak_48, ak_49, ak_50, ak_51, ak_52, ak_53, ak_54, ak_55, ak_56, el31, el33, el34, CX2_take, ca_X2_take, frX2, kcX2, klX2]
      grind (splits := 60) [inR, up]
    · exact h.elim
def ca_X2_digit : Nat → Option (Nat × Nat × Tr) := fun _ => none
theorem cao_X2_digit (l : Launch) : ∀ k n' ci T', ca_X2_digit k = some (n', ci, T') → ∃ nn, nn + 1 ≤ 0 ∧ Site l yX2_digit.cls k n' ci nn T' := by
  intro k n' ci T' h
  cases h
def T_X2_digit : Tr := fun a σ K => match a with
  | [.inr (.inl (2, 0))] => (0 ≤ σ 2 0 2) ∧ K (some (if σ 2 0 2 < σ 2 0 1 ∧ σ 2 0 2 < 80 ∧ 48 ≤ σ 36 0 (σ 2 0 2) ∧ σ 36 0 (σ 2 0 2) ≤ 57 then σ 36 0 (σ 2 0 2) - 48 else -6)) σ
  | _ => False
set_option maxHeartbeats 4000000 in
set_option maxRecDepth 20000 in
theorem k_X2_digit (l : Launch) : Ct l yX2_digit cX2_digit 1 (some .int) 0 T_X2_digit := by
  refine mk_met (by decide +kernel) hCX2_digit lCX2_digit frX2_ok cstX2_ok (cao_X2_digit l) ?_ ?_
  · intro a σ K h
    unfold T_X2_digit at h
    split at h
    · simp [eL]
    · exact h.elim
  · intro a σ K ha hR h
    unfold T_X2_digit at h
    split at h
    · refine ⟨fun _ => none, 200, fun pc I L S σ' k h => (by cases h), ?_⟩
      simp only [wp, stp, drp, entL, eL, lget, lset, okst, cnd, swt, rcv, Kr_int, Kr_bool, Kr_void, List.length_cons, List.length_nil, List.replicate, List.append_nil, List.cons_append, List.nil_append, List.take_succ_cons, List.take_zero, List.drop_succ_cons, List.drop_zero, List.reverse_cons, List.reverse_nil, Option.map_some, Option.map_none, Option.toList_some, Option.toList_none, Nat.reduceAdd, Nat.reduceSub, Nat.reduceLT, Nat.reduceLeDiff, Nat.reduceEqDiff, ↓reduceIte, Nat.add_zero, Nat.zero_add, true_and, and_true, Nat.le_refl, reduceCtorEq, false_implies, true_implies, not_true_eq_false, not_false_eq_true, Int.reduceAdd, Int.reduceSub, Int.reduceMul, Int.reduceLE, Int.reduceLT, Int.reduceEq, Int.reduceNe, Int.reduceNeg, Int.reduceDiv, Int.reduceMod, Bool.false_eq_true, Int.le_refl, and_self, true_or, or_true, inR_l, fv0, fv1, fv2, fv3, nc2, nc4, nc6, nc16, nc25, nc60, nc65, nc80, nc130, nc384, nc390, fp_0_0, fp_0_1, fp_0_2, fp_1_0, fp_1_1, fp_1_2, fp_1_3, fp_1_4, fp_1_5, fp_1_6, fp_1_7, fp_1_8, fp_1_9, fp_1_10, fp_1_11, fp_1_12, fp_1_13, fp_1_14, fp_2_0, fp_2_1, fp_2_2, fp_2_3, fp_3_0, fp_3_1, fp_4_0, fp_4_1, fp_4_2, fp_4_3, fp_4_4, fp_4_5, fp_4_6, fp_4_7, fp_5_0, fp_5_1, fp_5_2, fp_5_3, fp_5_4, fp_5_5, fp_5_6, fp_5_7, fp_6_0, fp_6_1, fp_6_2, fp_6_3, fp_6_4, fp_6_5, fp_6_6, fp_6_7, fp_6_8, fp_6_9, fp_6_10, fp_6_11, fp_6_12, fp_6_13, fp_6_14, fp_6_15, fp_7_0, fp_7_1, fp_7_2, fp_7_3, fp_7_4, fp_7_5, fp_7_6, fp_7_7, fp_7_8, fp_7_9, fp_7_10, fp_7_11, fp_7_12, fp_7_13, fp_7_14, fp_7_15, fp_7_16, fp_7_17, fp_7_18, fp_7_19, fp_7_20, fp_7_21, fp_7_22, fp_7_23, fp_7_24, iz_0_1, iz_0_2, iz_1_8, iz_1_9, iz_1_11, iz_2_1, iz_2_2, iz_2_3, iz_3_1, iz_4_1, iz_4_2, iz_5_0, iz_6_8, iz_6_9, iz_6_13, iz_6_14, iz_6_15, iz_7_2, iz_7_6, iz_7_12, iz_7_20, iz_7_21, iz_7_23, iz_7_24, ak_8, ak_9, ak_10, ak_11, ak_12, ak_13, ak_14, ak_15, ak_16, ak_17, ak_18, ak_19, ak_20, ak_21, ak_22, ak_23, ak_24, ak_25, ak_26, ak_27, ak_28, ak_29, ak_30, ak_31, ak_32, ak_33, ak_34, ak_35, ak_36, ak_37, ak_38, ak_39, ak_40, ak_41, ak_42, ak_43, ak_44, ak_45, ak_46, ak_47, ak_48, ak_49, ak_50, ak_51, ak_52, ak_53, ak_54, ak_55, ak_56, el31, el33, el34, CX2_digit, ca_X2_digit, frX2, kcX2, klX2]
      grind (splits := 60) [inR, up]
    · exact h.elim
def ca_X3_goesOn : Nat → Option (Nat × Nat × Tr)
  | 33 => some (2, 1, T_X1_slackOf)
  | _ => none
theorem cao_X3_goesOn (l : Launch) : ∀ k n' ci T', ca_X3_goesOn k = some (n', ci, T') → ∃ nn, nn + 1 ≤ 2 ∧ Site l yX3_goesOn.cls k n' ci nn T' := by
  intro k n' ci T' h
  unfold ca_X3_goesOn at h
  split at h
  · cases h; exact ⟨1, by decide, _, _, _, _, k_X1_slackOf l, Or.inl ⟨_, rfl, FX1_slackOf, KRX3_33⟩⟩
  · cases h
def T_X3_goesOn : Tr := fun a σ K => match a with
  | [.inr (.inl (3, 0)), .inr (.inl (1, i)), .inl x, .inl t] => (0 ≤ x ∧ x < 16 ∧ inR (σ 21 i x + σ 17 i x) ∧ inR (σ 21 i x + σ 17 i x + σ 22 i x) ∧ inR (σ 1 i 8 - (σ 21 i x + σ 17 i x + σ 22 i x))) ∧ K (some (if σ 1 i 8 - (σ 21 i x + σ 17 i x + σ 22 i x) = 0 ∧ σ 21 i x = t then 1 else 0)) σ
  | _ => False
set_option maxHeartbeats 4000000 in
set_option maxRecDepth 20000 in
theorem k_X3_goesOn (l : Launch) : Ct l yX3_goesOn cX3_goesOn 4 (some .boolean) 2 T_X3_goesOn := by
  refine mk_met (by decide +kernel) hCX3_goesOn lCX3_goesOn frX3_ok cstX3_ok (cao_X3_goesOn l) ?_ ?_
  · intro a σ K h
    unfold T_X3_goesOn at h
    split at h
    · simp [eL]
    · exact h.elim
  · intro a σ K ha hR h
    unfold T_X3_goesOn at h
    split at h
    · rename_i i x t
      refine ⟨fun _ => none, 200, fun pc I L S σ' k h => (by cases h), ?_⟩
      simp only [wp, stp, drp, entL, eL, lget, lset, okst, cnd, swt, rcv, Kr_int, Kr_bool, Kr_void, List.length_cons, List.length_nil, List.replicate, List.append_nil, List.cons_append, List.nil_append, List.take_succ_cons, List.take_zero, List.drop_succ_cons, List.drop_zero, List.reverse_cons, List.reverse_nil, Option.map_some, Option.map_none, Option.toList_some, Option.toList_none, Nat.reduceAdd, Nat.reduceSub, Nat.reduceLT, Nat.reduceLeDiff, Nat.reduceEqDiff, ↓reduceIte, Nat.add_zero, Nat.zero_add, true_and, and_true, Nat.le_refl, reduceCtorEq, false_implies, true_implies, not_true_eq_false, not_false_eq_true, Int.reduceAdd, Int.reduceSub, Int.reduceMul, Int.reduceLE, Int.reduceLT, Int.reduceEq, Int.reduceNe, Int.reduceNeg, Int.reduceDiv, Int.reduceMod, Bool.false_eq_true, Int.le_refl, and_self, true_or, or_true, inR_l, fv0, fv1, fv2, fv3, nc2, nc4, nc6, nc16, nc25, nc60, nc65, nc80, nc130, nc384, nc390, fp_0_0, fp_0_1, fp_0_2, fp_1_0, fp_1_1, fp_1_2, fp_1_3, fp_1_4, fp_1_5, fp_1_6, fp_1_7, fp_1_8, fp_1_9, fp_1_10, fp_1_11, fp_1_12, fp_1_13, fp_1_14, fp_2_0, fp_2_1, fp_2_2, fp_2_3, fp_3_0, fp_3_1, fp_4_0, fp_4_1, fp_4_2, fp_4_3, fp_4_4, fp_4_5, fp_4_6, fp_4_7, fp_5_0, fp_5_1, fp_5_2, fp_5_3, fp_5_4, fp_5_5, fp_5_6, fp_5_7, fp_6_0, fp_6_1, fp_6_2, fp_6_3, fp_6_4, fp_6_5, fp_6_6, fp_6_7, fp_6_8, fp_6_9, fp_6_10, fp_6_11, fp_6_12, fp_6_13, fp_6_14, fp_6_15, fp_7_0, fp_7_1, fp_7_2, fp_7_3, fp_7_4, fp_7_5, fp_7_6, fp_7_7, fp_7_8, fp_7_9, fp_7_10, fp_7_11, fp_7_12, fp_7_13, fp_7_14, fp_7_15, fp_7_16, fp_7_17, fp_7_18, fp_7_19, fp_7_20, fp_7_21, fp_7_22, fp_7_23, fp_7_24, iz_0_1, iz_0_2, iz_1_8, iz_1_9, iz_1_11, iz_2_1, iz_2_2, iz_2_3, iz_3_1, iz_4_1, iz_4_2, iz_5_0, iz_6_8, iz_6_9, iz_6_13, iz_6_14, iz_6_15, iz_7_2, iz_7_6, iz_7_12, iz_7_20, iz_7_21, iz_7_23, iz_7_24, ak_8, ak_9, ak_10, ak_11, ak_12, ak_13, ak_14, ak_15, ak_16, ak_17, ak_18, ak_19, ak_20, ak_21, ak_22, ak_23, ak_24, ak_25, ak_26, ak_27, ak_28, ak_29, ak_30, ak_31, ak_32, ak_33, ak_34, ak_35, ak_36, ak_37, ak_38, ak_39, ak_40, ak_41, ak_42, ak_43, ak_44, ak_45, ak_46, ak_47, ak_48, ak_49, ak_50, ak_51, ak_52, ak_53, ak_54, ak_55, ak_56, el31, el33, el34, CX3_goesOn, ca_X3_goesOn, frX3, kcX3, klX3, T_X1_slackOf]
      grind (splits := 60) [inR, up]
    · exact h.elim
def ca_X6_within : Nat → Option (Nat × Nat × Tr) := fun _ => none
theorem cao_X6_within (l : Launch) : ∀ k n' ci T', ca_X6_within k = some (n', ci, T') → ∃ nn, nn + 1 ≤ 0 ∧ Site l yX6_within.cls k n' ci nn T' := by
  intro k n' ci T' h
  cases h
def T_X6_within : Tr := fun a σ K => match a with
  | [.inl v, .inl lo, .inl hi] => K (some (if lo ≤ v ∧ v ≤ hi then 1 else 0)) σ
  | _ => False
set_option maxHeartbeats 4000000 in
set_option maxRecDepth 20000 in
theorem k_X6_within (l : Launch) : Ct l yX6_within cX6_within 3 (some .boolean) 0 T_X6_within := by
  refine mk_met (by decide +kernel) hCX6_within lCX6_within frX6_ok cstX6_ok (cao_X6_within l) ?_ ?_
  · intro a σ K h
    unfold T_X6_within at h
    split at h
    · simp [eL]
    · exact h.elim
  · intro a σ K ha hR h
    unfold T_X6_within at h
    split at h
    · rename_i v lo hi
      refine ⟨fun _ => none, 200, fun pc I L S σ' k h => (by cases h), ?_⟩
      simp only [wp, stp, drp, entL, eL, lget, lset, okst, cnd, swt, rcv, Kr_int, Kr_bool, Kr_void, List.length_cons, List.length_nil, List.replicate, List.append_nil, List.cons_append, List.nil_append, List.take_succ_cons, List.take_zero, List.drop_succ_cons, List.drop_zero, List.reverse_cons, List.reverse_nil, Option.map_some, Option.map_none, Option.toList_some, Option.toList_none, Nat.reduceAdd, Nat.reduceSub, Nat.reduceLT, Nat.reduceLeDiff, Nat.reduceEqDiff, ↓reduceIte, Nat.add_zero, Nat.zero_add, true_and, and_true, Nat.le_refl, reduceCtorEq, false_implies, true_implies, not_true_eq_false, not_false_eq_true, Int.reduceAdd, Int.reduceSub, Int.reduceMul, Int.reduceLE, Int.reduceLT, Int.reduceEq, Int.reduceNe, Int.reduceNeg, Int.reduceDiv, Int.reduceMod, Bool.false_eq_true, Int.le_refl, and_self, true_or, or_true, inR_l, fv0, fv1, fv2, fv3, nc2, nc4, nc6, nc16, nc25, nc60, nc65, nc80, nc130, nc384, nc390, fp_0_0, fp_0_1, fp_0_2, fp_1_0, fp_1_1, fp_1_2, fp_1_3, fp_1_4, fp_1_5, fp_1_6, fp_1_7, fp_1_8, fp_1_9, fp_1_10, fp_1_11, fp_1_12, fp_1_13, fp_1_14, fp_2_0, fp_2_1, fp_2_2, fp_2_3, fp_3_0, fp_3_1, fp_4_0, fp_4_1, fp_4_2, fp_4_3, fp_4_4, fp_4_5, fp_4_6, fp_4_7, fp_5_0, fp_5_1, fp_5_2, fp_5_3, fp_5_4, fp_5_5, fp_5_6, fp_5_7, fp_6_0, fp_6_1, fp_6_2, fp_6_3, fp_6_4, fp_6_5, fp_6_6, fp_6_7, fp_6_8, fp_6_9, fp_6_10, fp_6_11, fp_6_12, fp_6_13, fp_6_14, fp_6_15, fp_7_0, fp_7_1, fp_7_2, fp_7_3, fp_7_4, fp_7_5, fp_7_6, fp_7_7, fp_7_8, fp_7_9, fp_7_10, fp_7_11, fp_7_12, fp_7_13, fp_7_14, fp_7_15, fp_7_16, fp_7_17, fp_7_18, fp_7_19, fp_7_20, fp_7_21, fp_7_22, fp_7_23, fp_7_24, iz_0_1, iz_0_2, iz_1_8, iz_1_9, iz_1_11, iz_2_1, iz_2_2, iz_2_3, iz_3_1, iz_4_1, iz_4_2, iz_5_0, iz_6_8, iz_6_9, iz_6_13, iz_6_14, iz_6_15, iz_7_2, iz_7_6, iz_7_12, iz_7_20, iz_7_21, iz_7_23, iz_7_24, ak_8, ak_9, ak_10, ak_11, ak_12, ak_13, ak_14, ak_15, ak_16, ak_17, ak_18, ak_19, ak_20, ak_21, ak_22, ak_23, ak_24, ak_25, ak_26, ak_27, ak_28, ak_29, ak_30, ak_31, ak_32, ak_33, ak_34, ak_35, ak_36, ak_37, ak_38, ak_39, ak_40, ak_41, ak_42, ak_43, ak_44, ak_45, ak_46, ak_47, ak_48, ak_49, ak_50, ak_51, ak_52, ak_53, ak_54, ak_55, ak_56, el31, el33, el34, CX6_within, ca_X6_within, frX6, kcX6, klX6]
      grind (splits := 60) [inR, up]
    · exact h.elim
def ca_X6_isMachine : Nat → Option (Nat × Nat × Tr)
  | 68 => some (3, 99, T_X6_within)
  | _ => none
theorem cao_X6_isMachine (l : Launch) : ∀ k n' ci T', ca_X6_isMachine k = some (n', ci, T') → ∃ nn, nn + 1 ≤ 1 ∧ Site l yX6_isMachine.cls k n' ci nn T' := by
  intro k n' ci T' h
  unfold ca_X6_isMachine at h
  split at h
  · cases h; exact ⟨0, by decide, _, _, _, _, k_X6_within l, Or.inr ⟨rfl, FX6_within, Or.inl ⟨rfl, KRX6_68⟩⟩⟩
  · cases h
def T_X6_isMachine : Tr := fun a σ K => match a with
  | [.inl v] => K (some (if 0 ≤ v ∧ v ≤ 3 then 1 else 0)) σ
  | _ => False
set_option maxHeartbeats 4000000 in
set_option maxRecDepth 20000 in
theorem k_X6_isMachine (l : Launch) : Ct l yX6_isMachine cX6_isMachine 1 (some .boolean) 1 T_X6_isMachine := by
  refine mk_met (by decide +kernel) hCX6_isMachine lCX6_isMachine frX6_ok cstX6_ok (cao_X6_isMachine l) ?_ ?_
  · intro a σ K h
    unfold T_X6_isMachine at h
    split at h
    · simp [eL]
    · exact h.elim
  · intro a σ K ha hR h
    unfold T_X6_isMachine at h
    split at h
    · rename_i v
      refine ⟨fun _ => none, 200, fun pc I L S σ' k h => (by cases h), ?_⟩
      simp only [wp, stp, drp, entL, eL, lget, lset, okst, cnd, swt, rcv, Kr_int, Kr_bool, Kr_void, List.length_cons, List.length_nil, List.replicate, List.append_nil, List.cons_append, List.nil_append, List.take_succ_cons, List.take_zero, List.drop_succ_cons, List.drop_zero, List.reverse_cons, List.reverse_nil, Option.map_some, Option.map_none, Option.toList_some, Option.toList_none, Nat.reduceAdd, Nat.reduceSub, Nat.reduceLT, Nat.reduceLeDiff, Nat.reduceEqDiff, ↓reduceIte, Nat.add_zero, Nat.zero_add, true_and, and_true, Nat.le_refl, reduceCtorEq, false_implies, true_implies, not_true_eq_false, not_false_eq_true, Int.reduceAdd, Int.reduceSub, Int.reduceMul, Int.reduceLE, Int.reduceLT, Int.reduceEq, Int.reduceNe, Int.reduceNeg, Int.reduceDiv, Int.reduceMod, Bool.false_eq_true, Int.le_refl, and_self, true_or, or_true, inR_l, fv0, fv1, fv2, fv3, nc2, nc4, nc6, nc16, nc25, nc60, nc65, nc80, nc130, nc384, nc390, fp_0_0, fp_0_1, fp_0_2, fp_1_0, fp_1_1, fp_1_2, fp_1_3, fp_1_4, fp_1_5, fp_1_6, fp_1_7, fp_1_8, fp_1_9, fp_1_10, fp_1_11, fp_1_12, fp_1_13, fp_1_14, fp_2_0, fp_2_1, fp_2_2, fp_2_3, fp_3_0, fp_3_1, fp_4_0, fp_4_1, fp_4_2, fp_4_3, fp_4_4, fp_4_5, fp_4_6, fp_4_7, fp_5_0, fp_5_1, fp_5_2, fp_5_3, fp_5_4, fp_5_5, fp_5_6, fp_5_7, fp_6_0, fp_6_1, fp_6_2, fp_6_3, fp_6_4, fp_6_5, fp_6_6, fp_6_7, fp_6_8, fp_6_9, fp_6_10, fp_6_11, fp_6_12, fp_6_13, fp_6_14, fp_6_15, fp_7_0, fp_7_1, fp_7_2, fp_7_3, fp_7_4, fp_7_5, fp_7_6, fp_7_7, fp_7_8, fp_7_9, fp_7_10, fp_7_11, fp_7_12, fp_7_13, fp_7_14, fp_7_15, fp_7_16, fp_7_17, fp_7_18, fp_7_19, fp_7_20, fp_7_21, fp_7_22, fp_7_23, fp_7_24, iz_0_1, iz_0_2, iz_1_8, iz_1_9, iz_1_11, iz_2_1, iz_2_2, iz_2_3, iz_3_1, iz_4_1, iz_4_2, iz_5_0, iz_6_8, iz_6_9, iz_6_13, iz_6_14, iz_6_15, iz_7_2, iz_7_6, iz_7_12, iz_7_20, iz_7_21, iz_7_23, iz_7_24, ak_8, ak_9, ak_10, ak_11, ak_12, ak_13, ak_14, ak_15, ak_16, ak_17, ak_18, ak_19, ak_20, ak_21, ak_22, ak_23, ak_24, ak_25, ak_26, ak_27, ak_28, ak_29, ak_30, ak_31, ak_32, ak_33, ak_34, ak_35, ak_36, ak_37, ak_38, ak_39, ak_40, ak_41, ak_42, ak_43, ak_44, ak_45, ak_46, ak_47, ak_48, ak_49, ak_50, ak_51, ak_52, ak_53, ak_54, ak_55, ak_56, el31, el33, el34, CX6_isMachine, ca_X6_isMachine, frX6, kcX6, klX6, T_X6_within]
      grind (splits := 60) [inR, up]
    · exact h.elim
def ca_X6_forgetAnswers : Nat → Option (Nat × Nat × Tr) := fun _ => none
theorem cao_X6_forgetAnswers (l : Launch) : ∀ k n' ci T', ca_X6_forgetAnswers k = some (n', ci, T') → ∃ nn, nn + 1 ≤ 0 ∧ Site l yX6_forgetAnswers.cls k n' ci nn T' := by
  intro k n' ci T' h
  cases h
def T_X6_forgetAnswers : Tr := fun a σ K => match a with
  | [.inr (.inl (6, 0))] => K none (up (up (up σ 6 0 8 0) 4 0 1 0) 4 1 1 0)
  | _ => False
set_option maxHeartbeats 4000000 in
set_option maxRecDepth 20000 in
theorem k_X6_forgetAnswers (l : Launch) : Ct l yX6_forgetAnswers cX6_forgetAnswers 1 none 0 T_X6_forgetAnswers := by
  refine mk_met (by decide +kernel) hCX6_forgetAnswers lCX6_forgetAnswers frX6_ok cstX6_ok (cao_X6_forgetAnswers l) ?_ ?_
  · intro a σ K h
    unfold T_X6_forgetAnswers at h
    split at h
    · simp [eL]
    · exact h.elim
  · intro a σ K ha hR h
    unfold T_X6_forgetAnswers at h
    split at h
    · refine ⟨fun _ => none, 200, fun pc I L S σ' k h => (by cases h), ?_⟩
      simp only [wp, stp, drp, entL, eL, lget, lset, okst, cnd, swt, rcv, Kr_int, Kr_bool, Kr_void, List.length_cons, List.length_nil, List.replicate, List.append_nil, List.cons_append, List.nil_append, List.take_succ_cons, List.take_zero, List.drop_succ_cons, List.drop_zero, List.reverse_cons, List.reverse_nil, Option.map_some, Option.map_none, Option.toList_some, Option.toList_none, Nat.reduceAdd, Nat.reduceSub, Nat.reduceLT, Nat.reduceLeDiff, Nat.reduceEqDiff, ↓reduceIte, Nat.add_zero, Nat.zero_add, true_and, and_true, Nat.le_refl, reduceCtorEq, false_implies, true_implies, not_true_eq_false, not_false_eq_true, Int.reduceAdd, Int.reduceSub, Int.reduceMul, Int.reduceLE, Int.reduceLT, Int.reduceEq, Int.reduceNe, Int.reduceNeg, Int.reduceDiv, Int.reduceMod, Bool.false_eq_true, Int.le_refl, and_self, true_or, or_true, inR_l, fv0, fv1, fv2, fv3, nc2, nc4, nc6, nc16, nc25, nc60, nc65, nc80, nc130, nc384, nc390, fp_0_0, fp_0_1, fp_0_2, fp_1_0, fp_1_1, fp_1_2, fp_1_3, fp_1_4, fp_1_5, fp_1_6, fp_1_7, fp_1_8, fp_1_9, fp_1_10, fp_1_11, fp_1_12, fp_1_13, fp_1_14, fp_2_0, fp_2_1, fp_2_2, fp_2_3, fp_3_0, fp_3_1, fp_4_0, fp_4_1, fp_4_2, fp_4_3, fp_4_4, fp_4_5, fp_4_6, fp_4_7, fp_5_0, fp_5_1, fp_5_2, fp_5_3, fp_5_4, fp_5_5, fp_5_6, fp_5_7, fp_6_0, fp_6_1, fp_6_2, fp_6_3, fp_6_4, fp_6_5, fp_6_6, fp_6_7, fp_6_8, fp_6_9, fp_6_10, fp_6_11, fp_6_12, fp_6_13, fp_6_14, fp_6_15, fp_7_0, fp_7_1, fp_7_2, fp_7_3, fp_7_4, fp_7_5, fp_7_6, fp_7_7, fp_7_8, fp_7_9, fp_7_10, fp_7_11, fp_7_12, fp_7_13, fp_7_14, fp_7_15, fp_7_16, fp_7_17, fp_7_18, fp_7_19, fp_7_20, fp_7_21, fp_7_22, fp_7_23, fp_7_24, iz_0_1, iz_0_2, iz_1_8, iz_1_9, iz_1_11, iz_2_1, iz_2_2, iz_2_3, iz_3_1, iz_4_1, iz_4_2, iz_5_0, iz_6_8, iz_6_9, iz_6_13, iz_6_14, iz_6_15, iz_7_2, iz_7_6, iz_7_12, iz_7_20, iz_7_21, iz_7_23, iz_7_24, ak_8, ak_9, ak_10, ak_11, ak_12, ak_13, ak_14, ak_15, ak_16, ak_17, ak_18, ak_19, ak_20, ak_21, ak_22, ak_23, ak_24, ak_25, ak_26, ak_27, ak_28, ak_29, ak_30, ak_31, ak_32, ak_33, ak_34, ak_35, ak_36, ak_37, ak_38, ak_39, ak_40, ak_41, ak_42, ak_43, ak_44, ak_45, ak_46, ak_47, ak_48, ak_49, ak_50, ak_51, ak_52, ak_53, ak_54, ak_55, ak_56, el31, el33, el34, CX6_forgetAnswers, ca_X6_forgetAnswers, frX6, kcX6, klX6]
      grind (splits := 60) [inR, up]
    · exact h.elim
end
section
/-- the place of the job j in a row f from b on, of n places; none: -6 -/
def plF (f : Int → Int) (b n j : Int) : Int := if 0 < n ∧ f b = j then 0 else if 1 < n ∧ f (b + 1) = j then 1 else if 2 < n ∧ f (b + 2) = j then 2 else if 3 < n ∧ f (b + 3) = j then 3 else -6
/-- the first n of four places of a row from b on, added up -/
def wF (f : Int → Int) (b n : Int) : Int := if n ≤ 0 then 0 else if n ≤ 1 then f b else if n ≤ 2 then f b + f (b + 1) else if n ≤ 3 then f b + f (b + 1) + f (b + 2) else f b + f (b + 1) + f (b + 2) + f (b + 3)
/-- the first n of four places of a row from b on, as a set -/
noncomputable def sF (f : Int → Int) (b n : Int) : Int := if n ≤ 0 then 0 else if n ≤ 1 then bor 0 (bshl 1 (f b)) else if n ≤ 2 then bor (bor 0 (bshl 1 (f b))) (bshl 1 (f (b + 1))) else if n ≤ 3 then bor (bor (bor 0 (bshl 1 (f b))) (bshl 1 (f (b + 1)))) (bshl 1 (f (b + 2))) else bor (bor (bor (bor 0 (bshl 1 (f b))) (bshl 1 (f (b + 1)))) (bshl 1 (f (b + 2)))) (bshl 1 (f (b + 3)))
def ca_X6_copyRow : Nat → Option (Nat × Nat × Tr) := fun _ => none
theorem cao_X6_copyRow (l : Launch) : ∀ k n' ci T', ca_X6_copyRow k = some (n', ci, T') → ∃ nn, nn + 1 ≤ 0 ∧ Site l yX6_copyRow.cls k n' ci nn T' := by
  intro k n' ci T' h
  cases h
def T_X6_copyRow : Tr := fun a σ K => match a with
  | [.inr (.inl (t1, i1)), .inr (.inl (t2, i2))] => match ak t1, ak t2 with
    | some (0, n), some (0, n2) => n = n2 ∧ n < 1000 ∧ (∀ σ' : Mem, (∀ t i j, (t ≠ t2 ∨ i ≠ i2) → σ' t i j = σ t i j) → (∀ j : Int, 0 ≤ j → j < n → σ' t2 i2 j = σ t1 i1 j) → (∀ j : Int, (j < 0 ∨ n ≤ j) → σ' t2 i2 j = σ t2 i2 j) → K none σ')
    | _, _ => False
  | _ => False
set_option maxHeartbeats 8000000 in
set_option maxRecDepth 20000 in
theorem k_X6_copyRow (l : Launch) : Ct l yX6_copyRow cX6_copyRow 3 none 0 T_X6_copyRow := by
  refine mk_met (by decide +kernel) hCX6_copyRow lCX6_copyRow frX6_ok cstX6_ok (cao_X6_copyRow l) ?_ ?_
  · intro a σ K h
    unfold T_X6_copyRow at h
    split at h
    · simp [eL]
    · exact h.elim
  · intro a σ K ha hR h
    unfold T_X6_copyRow at h
    split at h
    · rename_i t1 i1 t2 i2
      split at h
      rotate_left
      · exact h.elim
      rename_i n n2 h1 h2
      obtain ⟨rfl, hn, h⟩ := h
      refine ⟨fun pc => if pc = 2 then some (fun L S σ' k => match L, S with | [some (.inr (.inl c1)), some (.inr (.inl c2)), some (.inl j)], [] => (c1 = (t1, i1) ∧ c2 = (t2, i2) ∧ 0 ≤ j ∧ j ≤ n ∧ (∀ t i j', (t ≠ t2 ∨ i ≠ i2) → σ' t i j' = σ t i j') ∧ (∀ j', 0 ≤ j' → j' < j → σ' t2 i2 j' = σ t1 i1 j') ∧ (∀ j', (j' < 0 ∨ j ≤ j') → σ' t2 i2 j' = σ t2 i2 j')) ∧ k = ((n : Int) - j).toNat | _, _ => False) else none, 200, ?_, ?_⟩
      · intro pc I L S σ' k hcut hi
        dsimp only at hcut
        split at hcut
        · rename_i hpc
          subst hpc
          cases hcut
          try dsimp only at hi
          split at hi
          · rename_i c1 c2 j
            obtain ⟨hi, rfl⟩ := hi
            obtain ⟨rfl, rfl, hj0, hjn, hf, hc, hk⟩ := hi
            simp only [wp, stp, drp, entL, eL, lget, lset, okst, cnd, swt, rcv, Kr_int, Kr_bool, Kr_void, List.length_cons, List.length_nil, List.replicate, List.append_nil, List.cons_append, List.nil_append, List.take_succ_cons, List.take_zero, List.drop_succ_cons, List.drop_zero, List.reverse_cons, List.reverse_nil, Option.map_some, Option.map_none, Option.toList_some, Option.toList_none, Nat.reduceAdd, Nat.reduceSub, Nat.reduceLT, Nat.reduceLeDiff, Nat.reduceEqDiff, ↓reduceIte, Nat.add_zero, Nat.zero_add, true_and, and_true, Nat.le_refl, reduceCtorEq, false_implies, true_implies, not_true_eq_false, not_false_eq_true, Int.reduceAdd, Int.reduceSub, Int.reduceMul, Int.reduceLE, Int.reduceLT, Int.reduceEq, Int.reduceNe, Int.reduceNeg, Int.reduceDiv, Int.reduceMod, Bool.false_eq_true, Int.le_refl, and_self, true_or, or_true, inR_l, fv0, fv1, fv2, fv3, nc2, nc4, nc6, nc16, nc25, nc60, nc65, nc80, nc130, nc384, nc390, fp_0_0, fp_0_1, fp_0_2, fp_1_0, fp_1_1, fp_1_2, fp_1_3, fp_1_4, fp_1_5, fp_1_6, fp_1_7, fp_1_8, fp_1_9, fp_1_10, fp_1_11, fp_1_12, fp_1_13, fp_1_14, fp_2_0, fp_2_1, fp_2_2, fp_2_3, fp_3_0, fp_3_1, fp_4_0, fp_4_1, fp_4_2, fp_4_3, fp_4_4, fp_4_5, fp_4_6, fp_4_7, fp_5_0, fp_5_1, fp_5_2, fp_5_3, fp_5_4, fp_5_5, fp_5_6, fp_5_7, fp_6_0, fp_6_1, fp_6_2, fp_6_3, fp_6_4, fp_6_5, fp_6_6, fp_6_7, fp_6_8, fp_6_9, fp_6_10, fp_6_11, fp_6_12, fp_6_13, fp_6_14, fp_6_15, fp_7_0, fp_7_1, fp_7_2, fp_7_3, fp_7_4, fp_7_5, fp_7_6, fp_7_7, fp_7_8, fp_7_9, fp_7_10, fp_7_11, fp_7_12, fp_7_13, fp_7_14, fp_7_15, fp_7_16, fp_7_17, fp_7_18, fp_7_19, fp_7_20, fp_7_21, fp_7_22, fp_7_23, fp_7_24, iz_0_1, iz_0_2, iz_1_8, iz_1_9, iz_1_11, iz_2_1, iz_2_2, iz_2_3, iz_3_1, iz_4_1, iz_4_2, iz_5_0, iz_6_8, iz_6_9, iz_6_13, iz_6_14, iz_6_15, iz_7_2, iz_7_6, iz_7_12, iz_7_20, iz_7_21, iz_7_23, iz_7_24, ak_8, ak_9, ak_10, ak_11, ak_12, ak_13, ak_14, ak_15, ak_16, ak_17, ak_18, ak_19, ak_20, ak_21, ak_22, ak_23, ak_24, ak_25, ak_26, ak_27, ak_28, ak_29, ak_30, ak_31, ak_32, ak_33, ak_34, ak_35, ak_36, ak_37, ak_38, ak_39, ak_40, ak_41, ak_42, ak_43, ak_44, ak_45, ak_46, ak_47, ak_48, ak_49, ak_50, ak_51, ak_52, ak_53, ak_54, ak_55, ak_56, el31, el33, el34, CX6_copyRow, ca_X6_copyRow, frX6, kcX6, klX6, h1, h2, exists_eq_right_right, exists_eq_right, exists_eq_left, Nat.lt_irrefl, and_self, implies_true, forall_const]
            grind (splits := 60) [inR, up]
          · exact hi.elim
        · cases hcut
      · simp only [wp, stp, drp, entL, eL, lget, lset, okst, cnd, swt, rcv, Kr_int, Kr_bool, Kr_void, List.length_cons, List.length_nil, List.replicate, List.append_nil, List.cons_append, List.nil_append, List.take_succ_cons, List.take_zero, List.drop_succ_cons, List.drop_zero, List.reverse_cons, List.reverse_nil, Option.map_some, Option.map_none, Option.toList_some, Option.toList_none, Nat.reduceAdd, Nat.reduceSub, Nat.reduceLT, Nat.reduceLeDiff, Nat.reduceEqDiff, ↓reduceIte, Nat.add_zero, Nat.zero_add, true_and, and_true, Nat.le_refl, reduceCtorEq, false_implies, true_implies, not_true_eq_false, not_false_eq_true, Int.reduceAdd, Int.reduceSub, Int.reduceMul, Int.reduceLE, Int.reduceLT, Int.reduceEq, Int.reduceNe, Int.reduceNeg, Int.reduceDiv, Int.reduceMod, Bool.false_eq_true, Int.le_refl, and_self, true_or, or_true, inR_l, fv0, fv1, fv2, fv3, nc2, nc4, nc6, nc16, nc25, nc60, nc65, nc80, nc130, nc384, nc390, fp_0_0, fp_0_1, fp_0_2, fp_1_0, fp_1_1, fp_1_2, fp_1_3, fp_1_4, fp_1_5, fp_1_6, fp_1_7, fp_1_8, fp_1_9, fp_1_10, fp_1_11, fp_1_12, fp_1_13, fp_1_14, fp_2_0, fp_2_1, fp_2_2, fp_2_3, fp_3_0, fp_3_1, fp_4_0, fp_4_1, fp_4_2, fp_4_3, fp_4_4, fp_4_5, fp_4_6, fp_4_7, fp_5_0, fp_5_1, fp_5_2, fp_5_3, fp_5_4, fp_5_5, fp_5_6, fp_5_7, fp_6_0, fp_6_1, fp_6_2, fp_6_3, fp_6_4, fp_6_5, fp_6_6, fp_6_7, fp_6_8, fp_6_9, fp_6_10, fp_6_11, fp_6_12, fp_6_13, fp_6_14, fp_6_15, fp_7_0, fp_7_1, fp_7_2, fp_7_3, fp_7_4, fp_7_5, fp_7_6, fp_7_7, fp_7_8, fp_7_9, fp_7_10, fp_7_11, fp_7_12, fp_7_13, fp_7_14, fp_7_15, fp_7_16, fp_7_17, fp_7_18, fp_7_19, fp_7_20, fp_7_21, fp_7_22, fp_7_23, fp_7_24, iz_0_1, iz_0_2, iz_1_8, iz_1_9, iz_1_11, iz_2_1, iz_2_2, iz_2_3, iz_3_1, iz_4_1, iz_4_2, iz_5_0, iz_6_8, iz_6_9, iz_6_13, iz_6_14, iz_6_15, iz_7_2, iz_7_6, iz_7_12, iz_7_20, iz_7_21, iz_7_23, iz_7_24, ak_8, ak_9, ak_10, ak_11, ak_12, ak_13, ak_14, ak_15, ak_16, ak_17, ak_18, ak_19, ak_20, ak_21, ak_22, ak_23, ak_24, ak_25, ak_26, ak_27, ak_28, ak_29, ak_30, ak_31, ak_32, ak_33, ak_34, ak_35, ak_36, ak_37, ak_38, ak_39, ak_40, ak_41, ak_42, ak_43, ak_44, ak_45, ak_46, ak_47, ak_48, ak_49, ak_50, ak_51, ak_52, ak_53, ak_54, ak_55, ak_56, el31, el33, el34, CX6_copyRow, ca_X6_copyRow, frX6, kcX6, klX6, h1, h2, exists_eq_right_right, exists_eq_right, exists_eq_left, Nat.lt_irrefl, and_self, implies_true, forall_const]
        grind (splits := 60) [inR, up]
    · exact h.elim
def ca_X5_operationAt : Nat → Option (Nat × Nat × Tr)
  | 45 => some (3, 5, T_X5_hasPlace)
  | 49 => some (3, 5, T_X5_operationOf)
  | _ => none
theorem cao_X5_operationAt (l : Launch) : ∀ k n' ci T', ca_X5_operationAt k = some (n', ci, T') → ∃ nn, nn + 1 ≤ 1 ∧ Site l yX5_operationAt.cls k n' ci nn T' := by
  intro k n' ci T' h
  unfold ca_X5_operationAt at h
  split at h
  · cases h; exact ⟨0, by decide, _, _, _, _, k_X5_hasPlace l, Or.inl ⟨_, rfl, FX5_hasPlace, KRX5_45⟩⟩
  · cases h; exact ⟨0, by decide, _, _, _, _, k_X5_operationOf l, Or.inl ⟨_, rfl, FX5_operationOf, KRX5_49⟩⟩
  · cases h
def T_X5_operationAt : Tr := fun a σ K => match a with
  | [.inr (.inl (5, i)), .inl m, .inl x] => (0 ≤ m ∧ m < 4 ∧ σ 13 i m ≤ 4 ∧ (0 ≤ x → x < σ 13 i m → 0 ≤ σ 14 i (4 * m + x) ∧ σ 14 i (4 * m + x) < 4 ∧ σ 10 i (σ 14 i (4 * m + x)) ≤ 4)) ∧ K (some (if 0 ≤ x ∧ x < σ 13 i m then opF (σ 11 i) (σ 10 i (σ 14 i (4 * m + x))) (σ 14 i (4 * m + x)) m else -6)) σ
  | _ => False
set_option maxHeartbeats 4000000 in
set_option maxRecDepth 20000 in
theorem k_X5_operationAt (l : Launch) : Ct l yX5_operationAt cX5_operationAt 3 (some .int) 1 T_X5_operationAt := by
  refine mk_met (by decide +kernel) hCX5_operationAt lCX5_operationAt frX5_ok cstX5_ok (cao_X5_operationAt l) ?_ ?_
  · intro a σ K h
    unfold T_X5_operationAt at h
    split at h
    · simp [eL]
    · exact h.elim
  · intro a σ K ha hR h
    unfold T_X5_operationAt at h
    split at h
    · rename_i i m x
      refine ⟨fun _ => none, 200, fun pc I L S σ' k h => (by cases h), ?_⟩
      simp only [wp, stp, drp, entL, eL, lget, lset, okst, cnd, swt, rcv, Kr_int, Kr_bool, Kr_void, List.length_cons, List.length_nil, List.replicate, List.append_nil, List.cons_append, List.nil_append, List.take_succ_cons, List.take_zero, List.drop_succ_cons, List.drop_zero, List.reverse_cons, List.reverse_nil, Option.map_some, Option.map_none, Option.toList_some, Option.toList_none, Nat.reduceAdd, Nat.reduceSub, Nat.reduceLT, Nat.reduceLeDiff, Nat.reduceEqDiff, ↓reduceIte, Nat.add_zero, Nat.zero_add, true_and, and_true, Nat.le_refl, reduceCtorEq, false_implies, true_implies, not_true_eq_false, not_false_eq_true, Int.reduceAdd, Int.reduceSub, Int.reduceMul, Int.reduceLE, Int.reduceLT, Int.reduceEq, Int.reduceNe, Int.reduceNeg, Int.reduceDiv, Int.reduceMod, Bool.false_eq_true, Int.le_refl, and_self, true_or, or_true, inR_l, fv0, fv1, fv2, fv3, nc2, nc4, nc6, nc16, nc25, nc60, nc65, nc80, nc130, nc384, nc390, fp_0_0, fp_0_1, fp_0_2, fp_1_0, fp_1_1, fp_1_2, fp_1_3, fp_1_4, fp_1_5, fp_1_6, fp_1_7, fp_1_8, fp_1_9, fp_1_10, fp_1_11, fp_1_12, fp_1_13, fp_1_14, fp_2_0, fp_2_1, fp_2_2, fp_2_3, fp_3_0, fp_3_1, fp_4_0, fp_4_1, fp_4_2, fp_4_3, fp_4_4, fp_4_5, fp_4_6, fp_4_7, fp_5_0, fp_5_1, fp_5_2, fp_5_3, fp_5_4, fp_5_5, fp_5_6, fp_5_7, fp_6_0, fp_6_1, fp_6_2, fp_6_3, fp_6_4, fp_6_5, fp_6_6, fp_6_7, fp_6_8, fp_6_9, fp_6_10, fp_6_11, fp_6_12, fp_6_13, fp_6_14, fp_6_15, fp_7_0, fp_7_1, fp_7_2, fp_7_3, fp_7_4, fp_7_5, fp_7_6, fp_7_7, fp_7_8, fp_7_9, fp_7_10, fp_7_11, fp_7_12, fp_7_13, fp_7_14, fp_7_15, fp_7_16, fp_7_17, fp_7_18, fp_7_19, fp_7_20, fp_7_21, fp_7_22, fp_7_23, fp_7_24, iz_0_1, iz_0_2, iz_1_8, iz_1_9, iz_1_11, iz_2_1, iz_2_2, iz_2_3, iz_3_1, iz_4_1, iz_4_2, iz_5_0, iz_6_8, iz_6_9, iz_6_13, iz_6_14, iz_6_15, iz_7_2, iz_7_6, iz_7_12, iz_7_20, iz_7_21, iz_7_23, iz_7_24, ak_8, ak_9, ak_10, ak_11, ak_12, ak_13, ak_14, ak_15, ak_16, ak_17, ak_18, ak_19, ak_20, ak_21, ak_22, ak_23, ak_24, ak_25, ak_26, ak_27, ak_28, ak_29, ak_30, ak_31, ak_32, ak_33, ak_34, ak_35, ak_36, ak_37, ak_38, ak_39, ak_40, ak_41, ak_42, ak_43, ak_44, ak_45, ak_46, ak_47, ak_48, ak_49, ak_50, ak_51, ak_52, ak_53, ak_54, ak_55, ak_56, el31, el33, el34, CX5_operationAt, ca_X5_operationAt, frX5, kcX5, klX5, T_X5_hasPlace, T_X5_operationOf]
      grind (splits := 60) [inR, up]
    · exact h.elim
def ca_X5_placeOf : Nat → Option (Nat × Nat × Tr) := fun _ => none
theorem cao_X5_placeOf (l : Launch) : ∀ k n' ci T', ca_X5_placeOf k = some (n', ci, T') → ∃ nn, nn + 1 ≤ 0 ∧ Site l yX5_placeOf.cls k n' ci nn T' := by
  intro k n' ci T' h
  cases h
def T_X5_placeOf : Tr := fun a σ K => match a with
  | [.inr (.inl (5, i)), .inl x] => (0 ≤ x ∧ x < 16 ∧ 0 ≤ σ 11 i x ∧ σ 11 i x < 4 ∧ σ 13 i (σ 11 i x) ≤ 4) ∧ K (some (plF (σ 14 i) (4 * σ 11 i x) (σ 13 i (σ 11 i x)) (x / 4))) σ
  | _ => False
set_option maxHeartbeats 4000000 in
set_option maxRecDepth 20000 in
theorem k_X5_placeOf (l : Launch) : Ct l yX5_placeOf cX5_placeOf 4 (some .int) 0 T_X5_placeOf := by
  refine mk_met (by decide +kernel) hCX5_placeOf lCX5_placeOf frX5_ok cstX5_ok (cao_X5_placeOf l) ?_ ?_
  · intro a σ K h
    unfold T_X5_placeOf at h
    split at h
    · simp [eL]
    · exact h.elim
  · intro a σ K ha hR h
    unfold T_X5_placeOf at h
    split at h
    · rename_i i x
      refine ⟨fun _ => none, 200, fun pc I L S σ' k h => (by cases h), ?_⟩
      simp only [wp, stp, drp, entL, eL, lget, lset, okst, cnd, swt, rcv, Kr_int, Kr_bool, Kr_void, List.length_cons, List.length_nil, List.replicate, List.append_nil, List.cons_append, List.nil_append, List.take_succ_cons, List.take_zero, List.drop_succ_cons, List.drop_zero, List.reverse_cons, List.reverse_nil, Option.map_some, Option.map_none, Option.toList_some, Option.toList_none, Nat.reduceAdd, Nat.reduceSub, Nat.reduceLT, Nat.reduceLeDiff, Nat.reduceEqDiff, ↓reduceIte, Nat.add_zero, Nat.zero_add, true_and, and_true, Nat.le_refl, reduceCtorEq, false_implies, true_implies, not_true_eq_false, not_false_eq_true, Int.reduceAdd, Int.reduceSub, Int.reduceMul, Int.reduceLE, Int.reduceLT, Int.reduceEq, Int.reduceNe, Int.reduceNeg, Int.reduceDiv, Int.reduceMod, Bool.false_eq_true, Int.le_refl, and_self, true_or, or_true, inR_l, fv0, fv1, fv2, fv3, nc2, nc4, nc6, nc16, nc25, nc60, nc65, nc80, nc130, nc384, nc390, fp_0_0, fp_0_1, fp_0_2, fp_1_0, fp_1_1, fp_1_2, fp_1_3, fp_1_4, fp_1_5, fp_1_6, fp_1_7, fp_1_8, fp_1_9, fp_1_10, fp_1_11, fp_1_12, fp_1_13, fp_1_14, fp_2_0, fp_2_1, fp_2_2, fp_2_3, fp_3_0, fp_3_1, fp_4_0, fp_4_1, fp_4_2, fp_4_3, fp_4_4, fp_4_5, fp_4_6, fp_4_7, fp_5_0, fp_5_1, fp_5_2, fp_5_3, fp_5_4, fp_5_5, fp_5_6, fp_5_7, fp_6_0, fp_6_1, fp_6_2, fp_6_3, fp_6_4, fp_6_5, fp_6_6, fp_6_7, fp_6_8, fp_6_9, fp_6_10, fp_6_11, fp_6_12, fp_6_13, fp_6_14, fp_6_15, fp_7_0, fp_7_1, fp_7_2, fp_7_3, fp_7_4, fp_7_5, fp_7_6, fp_7_7, fp_7_8, fp_7_9, fp_7_10, fp_7_11, fp_7_12, fp_7_13, fp_7_14, fp_7_15, fp_7_16, fp_7_17, fp_7_18, fp_7_19, fp_7_20, fp_7_21, fp_7_22, fp_7_23, fp_7_24, iz_0_1, iz_0_2, iz_1_8, iz_1_9, iz_1_11, iz_2_1, iz_2_2, iz_2_3, iz_3_1, iz_4_1, iz_4_2, iz_5_0, iz_6_8, iz_6_9, iz_6_13, iz_6_14, iz_6_15, iz_7_2, iz_7_6, iz_7_12, iz_7_20, iz_7_21, iz_7_23, iz_7_24, ak_8, ak_9, ak_10, ak_11, ak_12, ak_13, ak_14, ak_15, ak_16, ak_17, ak_18, ak_19, ak_20, ak_21, ak_22, ak_23, ak_24, ak_25, ak_26, ak_27, ak_28, ak_29, ak_30, ak_31, ak_32, ak_33, ak_34, ak_35, ak_36, ak_37, ak_38, ak_39, ak_40, ak_41, ak_42, ak_43, ak_44, ak_45, ak_46, ak_47, ak_48, ak_49, ak_50, ak_51, ak_52, ak_53, ak_54, ak_55, ak_56, el31, el33, el34, CX5_placeOf, ca_X5_placeOf, frX5, kcX5, klX5]
      unfold plF at h
      grind (splits := 60) [inR, up]
    · exact h.elim
def ca_X5_jobsInOrder : Nat → Option (Nat × Nat × Tr) := fun _ => none
theorem cao_X5_jobsInOrder (l : Launch) : ∀ k n' ci T', ca_X5_jobsInOrder k = some (n', ci, T') → ∃ nn, nn + 1 ≤ 0 ∧ Site l yX5_jobsInOrder.cls k n' ci nn T' := by
  intro k n' ci T' h
  cases h
def T_X5_jobsInOrder : Tr := fun a σ K => match a with
  | [.inr (.inl (5, i)), .inl m] => (0 ≤ m ∧ m < 4 ∧ σ 13 i m ≤ 4) ∧ K (some (sF (σ 14 i) (4 * m) (σ 13 i m))) σ
  | _ => False
set_option maxHeartbeats 4000000 in
set_option maxRecDepth 20000 in
theorem k_X5_jobsInOrder (l : Launch) : Ct l yX5_jobsInOrder cX5_jobsInOrder 4 (some .int) 0 T_X5_jobsInOrder := by
  refine mk_met (by decide +kernel) hCX5_jobsInOrder lCX5_jobsInOrder frX5_ok cstX5_ok (cao_X5_jobsInOrder l) ?_ ?_
  · intro a σ K h
    unfold T_X5_jobsInOrder at h
    split at h
    · simp [eL]
    · exact h.elim
  · intro a σ K ha hR h
    unfold T_X5_jobsInOrder at h
    split at h
    · rename_i i m
      refine ⟨fun _ => none, 200, fun pc I L S σ' k h => (by cases h), ?_⟩
      simp only [wp, stp, drp, entL, eL, lget, lset, okst, cnd, swt, rcv, Kr_int, Kr_bool, Kr_void, List.length_cons, List.length_nil, List.replicate, List.append_nil, List.cons_append, List.nil_append, List.take_succ_cons, List.take_zero, List.drop_succ_cons, List.drop_zero, List.reverse_cons, List.reverse_nil, Option.map_some, Option.map_none, Option.toList_some, Option.toList_none, Nat.reduceAdd, Nat.reduceSub, Nat.reduceLT, Nat.reduceLeDiff, Nat.reduceEqDiff, ↓reduceIte, Nat.add_zero, Nat.zero_add, true_and, and_true, Nat.le_refl, reduceCtorEq, false_implies, true_implies, not_true_eq_false, not_false_eq_true, Int.reduceAdd, Int.reduceSub, Int.reduceMul, Int.reduceLE, Int.reduceLT, Int.reduceEq, Int.reduceNe, Int.reduceNeg, Int.reduceDiv, Int.reduceMod, Bool.false_eq_true, Int.le_refl, and_self, true_or, or_true, inR_l, fv0, fv1, fv2, fv3, nc2, nc4, nc6, nc16, nc25, nc60, nc65, nc80, nc130, nc384, nc390, fp_0_0, fp_0_1, fp_0_2, fp_1_0, fp_1_1, fp_1_2, fp_1_3, fp_1_4, fp_1_5, fp_1_6, fp_1_7, fp_1_8, fp_1_9, fp_1_10, fp_1_11, fp_1_12, fp_1_13, fp_1_14, fp_2_0, fp_2_1, fp_2_2, fp_2_3, fp_3_0, fp_3_1, fp_4_0, fp_4_1, fp_4_2, fp_4_3, fp_4_4, fp_4_5, fp_4_6, fp_4_7, fp_5_0, fp_5_1, fp_5_2, fp_5_3, fp_5_4, fp_5_5, fp_5_6, fp_5_7, fp_6_0, fp_6_1, fp_6_2, fp_6_3, fp_6_4, fp_6_5, fp_6_6, fp_6_7, fp_6_8, fp_6_9, fp_6_10, fp_6_11, fp_6_12, fp_6_13, fp_6_14, fp_6_15, fp_7_0, fp_7_1, fp_7_2, fp_7_3, fp_7_4, fp_7_5, fp_7_6, fp_7_7, fp_7_8, fp_7_9, fp_7_10, fp_7_11, fp_7_12, fp_7_13, fp_7_14, fp_7_15, fp_7_16, fp_7_17, fp_7_18, fp_7_19, fp_7_20, fp_7_21, fp_7_22, fp_7_23, fp_7_24, iz_0_1, iz_0_2, iz_1_8, iz_1_9, iz_1_11, iz_2_1, iz_2_2, iz_2_3, iz_3_1, iz_4_1, iz_4_2, iz_5_0, iz_6_8, iz_6_9, iz_6_13, iz_6_14, iz_6_15, iz_7_2, iz_7_6, iz_7_12, iz_7_20, iz_7_21, iz_7_23, iz_7_24, ak_8, ak_9, ak_10, ak_11, ak_12, ak_13, ak_14, ak_15, ak_16, ak_17, ak_18, ak_19, ak_20, ak_21, ak_22, ak_23, ak_24, ak_25, ak_26, ak_27, ak_28, ak_29, ak_30, ak_31, ak_32, ak_33, ak_34, ak_35, ak_36, ak_37, ak_38, ak_39, ak_40, ak_41, ak_42, ak_43, ak_44, ak_45, ak_46, ak_47, ak_48, ak_49, ak_50, ak_51, ak_52, ak_53, ak_54, ak_55, ak_56, el31, el33, el34, CX5_jobsInOrder, ca_X5_jobsInOrder, frX5, kcX5, klX5]
      unfold sF at h
      grind (splits := 60) [inR, up]
    · exact h.elim
theorem wF_0 (f : Int → Int) (b : Int) : wF f b 0 = 0 := by simp [wF]
theorem wF_s (f : Int → Int) (b n : Int) (h : 0 ≤ n) (h2 : n < 4) : wF f b (n + 1) = wF f b n + f (b + n) := by
  rcases (show n = 0 ∨ n = 1 ∨ n = 2 ∨ n = 3 by omega) with rfl | rfl | rfl | rfl <;> simp [wF]
def ca_X5_work : Nat → Option (Nat × Nat × Tr) := fun _ => none
theorem cao_X5_work (l : Launch) : ∀ k n' ci T', ca_X5_work k = some (n', ci, T') → ∃ nn, nn + 1 ≤ 0 ∧ Site l yX5_work.cls k n' ci nn T' := by
  intro k n' ci T' h
  cases h
def T_X5_work : Tr := fun a σ K => match a with
  | [.inr (.inl (5, i)), .inl j] => (0 ≤ j ∧ j < 4 ∧ 0 ≤ σ 10 i j ∧ σ 10 i j ≤ 4 ∧ (∀ x, 0 ≤ x → x < σ 10 i j → 0 ≤ σ 12 i (4 * j + x) ∧ σ 12 i (4 * j + x) ≤ 1000)) ∧ K (some (wF (σ 12 i) (4 * j) (σ 10 i j))) σ
  | _ => False
set_option maxHeartbeats 8000000 in
set_option maxRecDepth 20000 in
theorem k_X5_work (l : Launch) : Ct l yX5_work cX5_work 4 (some .int) 0 T_X5_work := by
  refine mk_met (by decide +kernel) hCX5_work lCX5_work frX5_ok cstX5_ok (cao_X5_work l) ?_ ?_
  · intro a σ K h
    unfold T_X5_work at h
    split at h
    · simp [eL]
    · exact h.elim
  · intro a σ K ha hR h
    unfold T_X5_work at h
    split at h
    · rename_i i j
      refine ⟨fun pc => if pc = 4 then some (fun L S σ' k => match L, S with | [some (.inr (.inl c1)), some (.inl j'), some (.inl sm), some (.inl st)], [] => (c1 = (5, i) ∧ j' = j ∧ 0 ≤ st ∧ st ≤ σ 10 i j ∧ sm = wF (σ 12 i) (4 * j) st ∧ 0 ≤ sm ∧ sm ≤ 1000 * st ∧ σ' = σ) ∧ k = (4 - st).toNat | _, _ => False) else none, 200, ?_, ?_⟩
      · intro pc I L S σ' k hcut hi
        dsimp only at hcut
        split at hcut
        · rename_i hpc
          subst hpc
          cases hcut
          try dsimp only at hi
          split at hi
          · rename_i c1 j' sm st
            obtain ⟨hi, rfl⟩ := hi
            obtain ⟨rfl, rfl, h0, h1, h2, h3, h4, rfl⟩ := hi
            simp only [wp, stp, drp, entL, eL, lget, lset, okst, cnd, swt, rcv, Kr_int, Kr_bool, Kr_void, List.length_cons, List.length_nil, List.replicate, List.append_nil, List.cons_append, List.nil_append, List.take_succ_cons, List.take_zero, List.drop_succ_cons, List.drop_zero, List.reverse_cons, List.reverse_nil, Option.map_some, Option.map_none, Option.toList_some, Option.toList_none, Nat.reduceAdd, Nat.reduceSub, Nat.reduceLT, Nat.reduceLeDiff, Nat.reduceEqDiff, ↓reduceIte, Nat.add_zero, Nat.zero_add, true_and, and_true, Nat.le_refl, reduceCtorEq, false_implies, true_implies, not_true_eq_false, not_false_eq_true, Int.reduceAdd, Int.reduceSub, Int.reduceMul, Int.reduceLE, Int.reduceLT, Int.reduceEq, Int.reduceNe, Int.reduceNeg, Int.reduceDiv, Int.reduceMod, Bool.false_eq_true, Int.le_refl, and_self, true_or, or_true, inR_l, fv0, fv1, fv2, fv3, nc2, nc4, nc6, nc16, nc25, nc60, nc65, nc80, nc130, nc384, nc390, fp_0_0, fp_0_1, fp_0_2, fp_1_0, fp_1_1, fp_1_2, fp_1_3, fp_1_4, fp_1_5, fp_1_6, fp_1_7, fp_1_8, fp_1_9, fp_1_10, fp_1_11, fp_1_12, fp_1_13, fp_1_14, fp_2_0, fp_2_1, fp_2_2, fp_2_3, fp_3_0, fp_3_1, fp_4_0, fp_4_1, fp_4_2, fp_4_3, fp_4_4, fp_4_5, fp_4_6, fp_4_7, fp_5_0, fp_5_1, fp_5_2, fp_5_3, fp_5_4, fp_5_5, fp_5_6, fp_5_7, fp_6_0, fp_6_1, fp_6_2, fp_6_3, fp_6_4, fp_6_5, fp_6_6, fp_6_7, fp_6_8, fp_6_9, fp_6_10, fp_6_11, fp_6_12, fp_6_13, fp_6_14, fp_6_15, fp_7_0, fp_7_1, fp_7_2, fp_7_3, fp_7_4, fp_7_5, fp_7_6, fp_7_7, fp_7_8, fp_7_9, fp_7_10, fp_7_11, fp_7_12, fp_7_13, fp_7_14, fp_7_15, fp_7_16, fp_7_17, fp_7_18, fp_7_19, fp_7_20, fp_7_21, fp_7_22, fp_7_23, fp_7_24, iz_0_1, iz_0_2, iz_1_8, iz_1_9, iz_1_11, iz_2_1, iz_2_2, iz_2_3, iz_3_1, iz_4_1, iz_4_2, iz_5_0, iz_6_8, iz_6_9, iz_6_13, iz_6_14, iz_6_15, iz_7_2, iz_7_6, iz_7_12, iz_7_20, iz_7_21, iz_7_23, iz_7_24, ak_8, ak_9, ak_10, ak_11, ak_12, ak_13, ak_14, ak_15, ak_16, ak_17, ak_18, ak_19, ak_20, ak_21, ak_22, ak_23, ak_24, ak_25, ak_26, ak_27, ak_28, ak_29, ak_30, ak_31, ak_32, ak_33, ak_34, ak_35, ak_36, ak_37, ak_38, ak_39, ak_40, ak_41, ak_42, ak_43, ak_44, ak_45, ak_46, ak_47, ak_48, ak_49, ak_50, ak_51, ak_52, ak_53, ak_54, ak_55, ak_56, el31, el33, el34, CX5_work, ca_X5_work, frX5, kcX5, klX5, exists_eq_right_right, exists_eq_right, exists_eq_left, Nat.lt_irrefl, and_self, implies_true, forall_const]
            grind (splits := 60) [inR, wF_s, wF_0]
          · exact hi.elim
        · cases hcut
      · simp only [wp, stp, drp, entL, eL, lget, lset, okst, cnd, swt, rcv, Kr_int, Kr_bool, Kr_void, List.length_cons, List.length_nil, List.replicate, List.append_nil, List.cons_append, List.nil_append, List.take_succ_cons, List.take_zero, List.drop_succ_cons, List.drop_zero, List.reverse_cons, List.reverse_nil, Option.map_some, Option.map_none, Option.toList_some, Option.toList_none, Nat.reduceAdd, Nat.reduceSub, Nat.reduceLT, Nat.reduceLeDiff, Nat.reduceEqDiff, ↓reduceIte, Nat.add_zero, Nat.zero_add, true_and, and_true, Nat.le_refl, reduceCtorEq, false_implies, true_implies, not_true_eq_false, not_false_eq_true, Int.reduceAdd, Int.reduceSub, Int.reduceMul, Int.reduceLE, Int.reduceLT, Int.reduceEq, Int.reduceNe, Int.reduceNeg, Int.reduceDiv, Int.reduceMod, Bool.false_eq_true, Int.le_refl, and_self, true_or, or_true, inR_l, fv0, fv1, fv2, fv3, nc2, nc4, nc6, nc16, nc25, nc60, nc65, nc80, nc130, nc384, nc390, fp_0_0, fp_0_1, fp_0_2, fp_1_0, fp_1_1, fp_1_2, fp_1_3, fp_1_4, fp_1_5, fp_1_6, fp_1_7, fp_1_8, fp_1_9, fp_1_10, fp_1_11, fp_1_12, fp_1_13, fp_1_14, fp_2_0, fp_2_1, fp_2_2, fp_2_3, fp_3_0, fp_3_1, fp_4_0, fp_4_1, fp_4_2, fp_4_3, fp_4_4, fp_4_5, fp_4_6, fp_4_7, fp_5_0, fp_5_1, fp_5_2, fp_5_3, fp_5_4, fp_5_5, fp_5_6, fp_5_7, fp_6_0, fp_6_1, fp_6_2, fp_6_3, fp_6_4, fp_6_5, fp_6_6, fp_6_7, fp_6_8, fp_6_9, fp_6_10, fp_6_11, fp_6_12, fp_6_13, fp_6_14, fp_6_15, fp_7_0, fp_7_1, fp_7_2, fp_7_3, fp_7_4, fp_7_5, fp_7_6, fp_7_7, fp_7_8, fp_7_9, fp_7_10, fp_7_11, fp_7_12, fp_7_13, fp_7_14, fp_7_15, fp_7_16, fp_7_17, fp_7_18, fp_7_19, fp_7_20, fp_7_21, fp_7_22, fp_7_23, fp_7_24, iz_0_1, iz_0_2, iz_1_8, iz_1_9, iz_1_11, iz_2_1, iz_2_2, iz_2_3, iz_3_1, iz_4_1, iz_4_2, iz_5_0, iz_6_8, iz_6_9, iz_6_13, iz_6_14, iz_6_15, iz_7_2, iz_7_6, iz_7_12, iz_7_20, iz_7_21, iz_7_23, iz_7_24, ak_8, ak_9, ak_10, ak_11, ak_12, ak_13, ak_14, ak_15, ak_16, ak_17, ak_18, ak_19, ak_20, ak_21, ak_22, ak_23, ak_24, ak_25, ak_26, ak_27, ak_28, ak_29, ak_30, ak_31, ak_32, ak_33, ak_34, ak_35, ak_36, ak_37, ak_38, ak_39, ak_40, ak_41, ak_42, ak_43, ak_44, ak_45, ak_46, ak_47, ak_48, ak_49, ak_50, ak_51, ak_52, ak_53, ak_54, ak_55, ak_56, el31, el33, el34, CX5_work, ca_X5_work, frX5, kcX5, klX5, exists_eq_right_right, exists_eq_right, exists_eq_left, Nat.lt_irrefl, and_self, implies_true, forall_const]
        grind (splits := 60) [inR, wF_s, wF_0]
    · exact h.elim
def ca_X5_clear : Nat → Option (Nat × Nat × Tr) := fun _ => none
theorem cao_X5_clear (l : Launch) : ∀ k n' ci T', ca_X5_clear k = some (n', ci, T') → ∃ nn, nn + 1 ≤ 0 ∧ Site l yX5_clear.cls k n' ci nn T' := by
  intro k n' ci T' h
  cases h
def T_X5_clear : Tr := fun a σ K => match a with
  | [.inr (.inl (5, i))] => ∀ σ' : Mem, (∀ t k j, σ' t k j = if k = i ∧ ((t = 5 ∧ j = 0) ∨ ((t = 10 ∨ t = 13) ∧ 0 ≤ j ∧ j < 4)) then 0 else σ t k j) → K none σ'
  | _ => False
set_option maxHeartbeats 4000000 in
set_option maxRecDepth 20000 in
theorem k_X5_clear (l : Launch) : Ct l yX5_clear cX5_clear 2 none 0 T_X5_clear := by
  refine mk_met (by decide +kernel) hCX5_clear lCX5_clear frX5_ok cstX5_ok (cao_X5_clear l) ?_ ?_
  · intro a σ K h
    unfold T_X5_clear at h
    split at h
    · simp [eL]
    · exact h.elim
  · intro a σ K ha hR h
    unfold T_X5_clear at h
    split at h
    · rename_i i
      refine ⟨fun _ => none, 120, fun pc I L S σ' k h => (by cases h), ?_⟩
      simp only [wp, stp, drp, entL, eL, lget, lset, okst, cnd, swt, rcv, Kr_int, Kr_bool, Kr_void, List.length_cons, List.length_nil, List.replicate, List.append_nil, List.cons_append, List.nil_append, List.take_succ_cons, List.take_zero, List.drop_succ_cons, List.drop_zero, List.reverse_cons, List.reverse_nil, Option.map_some, Option.map_none, Option.toList_some, Option.toList_none, Nat.reduceAdd, Nat.reduceSub, Nat.reduceLT, Nat.reduceLeDiff, Nat.reduceEqDiff, ↓reduceIte, Nat.add_zero, Nat.zero_add, true_and, and_true, Nat.le_refl, reduceCtorEq, false_implies, true_implies, not_true_eq_false, not_false_eq_true, Int.reduceAdd, Int.reduceSub, Int.reduceMul, Int.reduceLE, Int.reduceLT, Int.reduceEq, Int.reduceNe, Int.reduceNeg, Int.reduceDiv, Int.reduceMod, Bool.false_eq_true, Int.le_refl, and_self, true_or, or_true, inR_l, fv0, fv1, fv2, fv3, nc2, nc4, nc6, nc16, nc25, nc60, nc65, nc80, nc130, nc384, nc390, fp_0_0, fp_0_1, fp_0_2, fp_1_0, fp_1_1, fp_1_2, fp_1_3, fp_1_4, fp_1_5, fp_1_6, fp_1_7, fp_1_8, fp_1_9, fp_1_10, fp_1_11, fp_1_12, fp_1_13, fp_1_14, fp_2_0, fp_2_1, fp_2_2, fp_2_3, fp_3_0, fp_3_1, fp_4_0, fp_4_1, fp_4_2, fp_4_3, fp_4_4, fp_4_5, fp_4_6, fp_4_7, fp_5_0, fp_5_1, fp_5_2, fp_5_3, fp_5_4, fp_5_5, fp_5_6, fp_5_7, fp_6_0, fp_6_1, fp_6_2, fp_6_3, fp_6_4, fp_6_5, fp_6_6, fp_6_7, fp_6_8, fp_6_9, fp_6_10, fp_6_11, fp_6_12, fp_6_13, fp_6_14, fp_6_15, fp_7_0, fp_7_1, fp_7_2, fp_7_3, fp_7_4, fp_7_5, fp_7_6, fp_7_7, fp_7_8, fp_7_9, fp_7_10, fp_7_11, fp_7_12, fp_7_13, fp_7_14, fp_7_15, fp_7_16, fp_7_17, fp_7_18, fp_7_19, fp_7_20, fp_7_21, fp_7_22, fp_7_23, fp_7_24, iz_0_1, iz_0_2, iz_1_8, iz_1_9, iz_1_11, iz_2_1, iz_2_2, iz_2_3, iz_3_1, iz_4_1, iz_4_2, iz_5_0, iz_6_8, iz_6_9, iz_6_13, iz_6_14, iz_6_15, iz_7_2, iz_7_6, iz_7_12, iz_7_20, iz_7_21, iz_7_23, iz_7_24, ak_8, ak_9, ak_10, ak_11, ak_12, ak_13, ak_14, ak_15, ak_16, ak_17, ak_18, ak_19, ak_20, ak_21, ak_22, ak_23, ak_24, ak_25, ak_26, ak_27, ak_28, ak_29, ak_30, ak_31, ak_32, ak_33, ak_34, ak_35, ak_36, ak_37, ak_38, ak_39, ak_40, ak_41, ak_42, ak_43, ak_44, ak_45, ak_46, ak_47, ak_48, ak_49, ak_50, ak_51, ak_52, ak_53, ak_54, ak_55, ak_56, el31, el33, el34, CX5_clear, ca_X5_clear, frX5, kcX5, klX5]
      refine h _ (fun t k j => ?_)
      simp only [up]
      grind (splits := 60)
    · exact h.elim
def ca_X5_become : Nat → Option (Nat × Nat × Tr)
  | 37 => some (2, 99, T_X6_copyRow)
  | _ => none
theorem cao_X5_become (l : Launch) : ∀ k n' ci T', ca_X5_become k = some (n', ci, T') → ∃ nn, nn + 1 ≤ 1 ∧ Site l yX5_become.cls k n' ci nn T' := by
  intro k n' ci T' h
  unfold ca_X5_become at h
  split at h
  · cases h; exact ⟨0, by decide, _, _, _, _, k_X6_copyRow l, Or.inr ⟨rfl, FX6_copyRow, Or.inr ⟨_, KRX5_37⟩⟩⟩
  · cases h
def T_X5_become : Tr := fun a σ K => match a with
  | [.inr (.inl (5, i)), .inr (.inl (5, i2))] => ∀ σ' : Mem, (∀ t k j, σ' t k j = if k = i ∧ ((t = 5 ∧ j = 0) ∨ (8 ≤ t ∧ t ≤ 14 ∧ 0 ≤ j ∧ j < (if t = 11 ∨ t = 12 ∨ t = 14 then 16 else 4))) then σ t i2 j else σ t k j) → K none σ'
  | _ => False
set_option maxHeartbeats 4000000 in
set_option maxRecDepth 20000 in
theorem k_X5_become (l : Launch) : Ct l yX5_become cX5_become 2 none 1 T_X5_become := by
  refine mk_met (by decide +kernel) hCX5_become lCX5_become frX5_ok cstX5_ok (cao_X5_become l) ?_ ?_
  · intro a σ K h
    unfold T_X5_become at h
    split at h
    · simp [eL]
    · exact h.elim
  · intro a σ K ha hR h
    unfold T_X5_become at h
    split at h
    · rename_i i i2
      refine ⟨fun _ => none, 200, fun pc I L S σ' k h => (by cases h), ?_⟩
      simp only [wp, stp, drp, entL, eL, lget, lset, okst, cnd, swt, rcv, Kr_int, Kr_bool, Kr_void, List.length_cons, List.length_nil, List.replicate, List.append_nil, List.cons_append, List.nil_append, List.take_succ_cons, List.take_zero, List.drop_succ_cons, List.drop_zero, List.reverse_cons, List.reverse_nil, Option.map_some, Option.map_none, Option.toList_some, Option.toList_none, Nat.reduceAdd, Nat.reduceSub, Nat.reduceLT, Nat.reduceLeDiff, Nat.reduceEqDiff, ↓reduceIte, Nat.add_zero, Nat.zero_add, true_and, and_true, Nat.le_refl, reduceCtorEq, false_implies, true_implies, not_true_eq_false, not_false_eq_true, Int.reduceAdd, Int.reduceSub, Int.reduceMul, Int.reduceLE, Int.reduceLT, Int.reduceEq, Int.reduceNe, Int.reduceNeg, Int.reduceDiv, Int.reduceMod, Bool.false_eq_true, Int.le_refl, and_self, true_or, or_true, inR_l, fv0, fv1, fv2, fv3, nc2, nc4, nc6, nc16, nc25, nc60, nc65, nc80, nc130, nc384, nc390, fp_0_0, fp_0_1, fp_0_2, fp_1_0, fp_1_1, fp_1_2, fp_1_3, fp_1_4, fp_1_5, fp_1_6, fp_1_7, fp_1_8, fp_1_9, fp_1_10, fp_1_11, fp_1_12, fp_1_13, fp_1_14, fp_2_0, fp_2_1, fp_2_2, fp_2_3, fp_3_0, fp_3_1, fp_4_0, fp_4_1, fp_4_2, fp_4_3, fp_4_4, fp_4_5, fp_4_6, fp_4_7, fp_5_0, fp_5_1, fp_5_2, fp_5_3, fp_5_4, fp_5_5, fp_5_6, fp_5_7, fp_6_0, fp_6_1, fp_6_2, fp_6_3, fp_6_4, fp_6_5, fp_6_6, fp_6_7, fp_6_8, fp_6_9, fp_6_10, fp_6_11, fp_6_12, fp_6_13, fp_6_14, fp_6_15, fp_7_0, fp_7_1, fp_7_2, fp_7_3, fp_7_4, fp_7_5, fp_7_6, fp_7_7, fp_7_8, fp_7_9, fp_7_10, fp_7_11, fp_7_12, fp_7_13, fp_7_14, fp_7_15, fp_7_16, fp_7_17, fp_7_18, fp_7_19, fp_7_20, fp_7_21, fp_7_22, fp_7_23, fp_7_24, iz_0_1, iz_0_2, iz_1_8, iz_1_9, iz_1_11, iz_2_1, iz_2_2, iz_2_3, iz_3_1, iz_4_1, iz_4_2, iz_5_0, iz_6_8, iz_6_9, iz_6_13, iz_6_14, iz_6_15, iz_7_2, iz_7_6, iz_7_12, iz_7_20, iz_7_21, iz_7_23, iz_7_24, ak_8, ak_9, ak_10, ak_11, ak_12, ak_13, ak_14, ak_15, ak_16, ak_17, ak_18, ak_19, ak_20, ak_21, ak_22, ak_23, ak_24, ak_25, ak_26, ak_27, ak_28, ak_29, ak_30, ak_31, ak_32, ak_33, ak_34, ak_35, ak_36, ak_37, ak_38, ak_39, ak_40, ak_41, ak_42, ak_43, ak_44, ak_45, ak_46, ak_47, ak_48, ak_49, ak_50, ak_51, ak_52, ak_53, ak_54, ak_55, ak_56, el31, el33, el34, CX5_become, ca_X5_become, frX5, kcX5, klX5, T_X6_copyRow, ne_eq]
      intro σ1 f1 g1 k1 σ2 f2 g2 k2 σ3 f3 g3 k3 σ4 f4 g4 k4 σ5 f5 g5 k5 σ6 f6 g6 k6 σ7 f7 g7 k7
      refine h _ (fun t k j => ?_)
      grind (splits := 60) [up]
    · exact h.elim
end
section
/-- a set of jobs, as the four lowest bits -/
def hasB (s j : Int) : Prop := band (bshr s j) 1 ≠ 0
theorem hasB_def (s j : Int) : (band (bshr s j) 1 = 0) = ¬ hasB s j := by simp [hasB]
theorem i16 {s : Int} (h : 0 ≤ s) (h2 : s < 16) : ∃ k : Fin 16, s = (k.val : Int) := ⟨⟨s.toNat, by omega⟩, by simp; omega⟩
theorem i4 {s : Int} (h : 0 ≤ s) (h2 : s < 4) : ∃ k : Fin 4, s = (k.val : Int) := ⟨⟨s.toNat, by omega⟩, by simp; omega⟩
theorem bit_or_k : ∀ (s : Fin 16) (j k : Fin 4), ((band (bshr (bor (s.val : Int) (bshl 1 (j.val : Int))) (k.val : Int)) 1 ≠ 0) ↔ (band (bshr (s.val : Int) (k.val : Int)) 1 ≠ 0 ∨ (k.val : Int) = (j.val : Int))) ∧ 0 ≤ bor (s.val : Int) (bshl 1 (j.val : Int)) ∧ bor (s.val : Int) (bshl 1 (j.val : Int)) < 16 := by
  simp only [band_eq, bor_eq, bxor_eq, bshl_eq, bshr_eq]
  decide +kernel
theorem bit_or {s j k : Int} (h0 : 0 ≤ s) (h1 : s < 16) (h2 : 0 ≤ j) (h3 : j < 4) (h4 : 0 ≤ k) (h5 : k < 4) : hasB (bor s (bshl 1 j)) k ↔ hasB s k ∨ k = j := by
  obtain ⟨s, rfl⟩ := i16 h0 h1
  obtain ⟨j, rfl⟩ := i4 h2 h3
  obtain ⟨k, rfl⟩ := i4 h4 h5
  exact (bit_or_k s j k).1
theorem bit_or_r {s j : Int} (h0 : 0 ≤ s) (h1 : s < 16) (h2 : 0 ≤ j) (h3 : j < 4) : 0 ≤ bor s (bshl 1 j) ∧ bor s (bshl 1 j) < 16 := by
  obtain ⟨s, rfl⟩ := i16 h0 h1
  obtain ⟨j, rfl⟩ := i4 h2 h3
  exact (bit_or_k s j 0).2
theorem bit_cl_k : ∀ (s : Fin 16) (j k : Fin 4), ((band (bshr (band (s.val : Int) (bxor (bshl 1 (j.val : Int)) (-1))) (k.val : Int)) 1 ≠ 0) ↔ (band (bshr (s.val : Int) (k.val : Int)) 1 ≠ 0 ∧ (k.val : Int) ≠ (j.val : Int))) ∧ 0 ≤ band (s.val : Int) (bxor (bshl 1 (j.val : Int)) (-1)) ∧ band (s.val : Int) (bxor (bshl 1 (j.val : Int)) (-1)) < 16 := by
  simp only [band_eq, bor_eq, bxor_eq, bshl_eq, bshr_eq]
  decide +kernel
theorem bit_cl {s j k : Int} (h0 : 0 ≤ s) (h1 : s < 16) (h2 : 0 ≤ j) (h3 : j < 4) (h4 : 0 ≤ k) (h5 : k < 4) : hasB (band s (bxor (bshl 1 j) (-1))) k ↔ hasB s k ∧ k ≠ j := by
  obtain ⟨s, rfl⟩ := i16 h0 h1
  obtain ⟨j, rfl⟩ := i4 h2 h3
  obtain ⟨k, rfl⟩ := i4 h4 h5
  exact (bit_cl_k s j k).1
theorem bit_cl_r {s j : Int} (h0 : 0 ≤ s) (h1 : s < 16) (h2 : 0 ≤ j) (h3 : j < 4) : 0 ≤ band s (bxor (bshl 1 j) (-1)) ∧ band s (bxor (bshl 1 j) (-1)) < 16 := by
  obtain ⟨s, rfl⟩ := i16 h0 h1
  obtain ⟨j, rfl⟩ := i4 h2 h3
  exact (bit_cl_k s j 0).2
theorem bit_sub_k : ∀ (s t : Fin 16), (band (s.val : Int) (bxor (t.val : Int) (-1)) = 0) ↔ ∀ k : Fin 4, band (bshr (s.val : Int) (k.val : Int)) 1 ≠ 0 → band (bshr (t.val : Int) (k.val : Int)) 1 ≠ 0 := by
  simp only [band_eq, bor_eq, bxor_eq, bshl_eq, bshr_eq]
  decide +kernel
theorem bit_sub {s t : Int} (h0 : 0 ≤ s) (h1 : s < 16) (h2 : 0 ≤ t) (h3 : t < 16) : (band s (bxor t (-1)) = 0) ↔ ∀ k, 0 ≤ k → k < 4 → hasB s k → hasB t k := by
  obtain ⟨s, rfl⟩ := i16 h0 h1
  obtain ⟨t, rfl⟩ := i16 h2 h3
  rw [bit_sub_k]
  constructor
  · intro h k a b
    obtain ⟨k, rfl⟩ := i4 a b
    exact h k
  · intro h k
    exact h k.val (by omega) (by omega)
theorem bit_and_k : ∀ (s t : Fin 16), (band (s.val : Int) (t.val : Int) = 0) ↔ ∀ k : Fin 4, ¬ (band (bshr (s.val : Int) (k.val : Int)) 1 ≠ 0 ∧ band (bshr (t.val : Int) (k.val : Int)) 1 ≠ 0) := by
  simp only [band_eq, bor_eq, bxor_eq, bshl_eq, bshr_eq]
  decide +kernel
theorem bit_and {s t : Int} (h0 : 0 ≤ s) (h1 : s < 16) (h2 : 0 ≤ t) (h3 : t < 16) : (band s t = 0) ↔ ∀ k, 0 ≤ k → k < 4 → ¬ (hasB s k ∧ hasB t k) := by
  obtain ⟨s, rfl⟩ := i16 h0 h1
  obtain ⟨t, rfl⟩ := i16 h2 h3
  rw [bit_and_k]
  constructor
  · intro h k a b
    obtain ⟨k, rfl⟩ := i4 a b
    exact h k
  · intro h k
    exact h k.val (by omega) (by omega)
theorem bit_ext_k : ∀ (s t : Fin 16), (∀ k : Fin 4, (band (bshr (s.val : Int) (k.val : Int)) 1 ≠ 0 ↔ band (bshr (t.val : Int) (k.val : Int)) 1 ≠ 0)) → s = t := by
  simp only [band_eq, bor_eq, bxor_eq, bshl_eq, bshr_eq]
  decide +kernel
theorem bit_ext {s t : Int} (h0 : 0 ≤ s) (h1 : s < 16) (h2 : 0 ≤ t) (h3 : t < 16) (h : ∀ k, 0 ≤ k → k < 4 → (hasB s k ↔ hasB t k)) : s = t := by
  obtain ⟨s, rfl⟩ := i16 h0 h1
  obtain ⟨t, rfl⟩ := i16 h2 h3
  rw [bit_ext_k s t (fun k => h k.val (by omega) (by omega))]
theorem bit_0 {k : Int} (h4 : 0 ≤ k) (h5 : k < 4) : ¬ hasB 0 k := by
  obtain ⟨k, rfl⟩ := i4 h4 h5
  have key : ∀ k : Fin 4, ¬ (band (bshr 0 (k.val : Int)) 1 ≠ 0) := by
    simp only [band_eq, bshr_eq]
    decide +kernel
  exact key k
theorem hasB_ne0 {s k : Int} (h0 : 0 ≤ s) (h1 : s < 16) (h4 : 0 ≤ k) (h5 : k < 4) (h : hasB s k) : s ≠ 0 := fun e => bit_0 h4 h5 (e ▸ h)
/-! heads and tails as longest ways: the equations, and that they have at most one solution -/
def IsHead (V : Int → Prop) (P : Int → Int → Prop) (d r h : Int → Int) : Prop := ∀ o, V o → r o ≤ h o ∧ (∀ o', V o' → P o' o → h o' + d o' ≤ h o) ∧ (h o = r o ∨ ∃ o', V o' ∧ P o' o ∧ h o = h o' + d o')
def IsTail (V : Int → Prop) (P : Int → Int → Prop) (d t : Int → Int) : Prop := ∀ o, V o → 0 ≤ t o ∧ (∀ o', V o' → P o o' → d o' + t o' ≤ t o) ∧ (t o = 0 ∨ ∃ o', V o' ∧ P o o' ∧ t o = d o' + t o')
def IsMax (V : Int → Prop) (f : Int → Int) (m : Int) : Prop := 0 ≤ m ∧ (∀ o, V o → f o ≤ m) ∧ (m = 0 ∨ ∃ o, V o ∧ f o = m)
theorem head_ge {V : Int → Prop} {P : Int → Int → Prop} {d r h : Int → Int} (hr : ∀ o, V o → 0 ≤ r o) (H : IsHead V P d r h) {o : Int} (ho : V o) : 0 ≤ h o := Int.le_trans (hr o ho) (H o ho).1
theorem head_le {V : Int → Prop} {P : Int → Int → Prop} {d r h h' : Int → Int} (hd : ∀ o, V o → 1 ≤ d o) (hr : ∀ o, V o → 0 ≤ r o) (H : IsHead V P d r h) (H' : IsHead V P d r h') : ∀ (n : Nat) (o : Int), V o → h o ≤ n → h o ≤ h' o := by
  intro n
  induction n with
  | zero =>
    intro o ho hn
    have h1 := head_ge hr H ho
    have h2 := head_ge hr H' ho
    omega
  | succ n ih =>
    intro o ho hn
    obtain ⟨a1, a2, a3⟩ := H o ho
    obtain ⟨b1, b2, b3⟩ := H' o ho
    rcases a3 with a3 | ⟨o', v', p', a3⟩
    · omega
    · have h1 := hd o' v'
      have h2 := ih o' v' (by omega)
      have h3 := b2 o' v' p'
      omega
theorem head_unique {V : Int → Prop} {P : Int → Int → Prop} {d r h h' : Int → Int} (hd : ∀ o, V o → 1 ≤ d o) (hr : ∀ o, V o → 0 ≤ r o) (H : IsHead V P d r h) (H' : IsHead V P d r h') {o : Int} (ho : V o) : h o = h' o := by
  have h1 := head_le hd hr H H' (h o).toNat o ho (by omega)
  have h2 := head_le hd hr H' H (h' o).toNat o ho (by omega)
  omega
theorem tail_le {V : Int → Prop} {P : Int → Int → Prop} {d t t' : Int → Int} (hd : ∀ o, V o → 1 ≤ d o) (H : IsTail V P d t) (H' : IsTail V P d t') : ∀ (n : Nat) (o : Int), V o → t o ≤ n → t o ≤ t' o := by
  intro n
  induction n with
  | zero =>
    intro o ho hn
    have h1 := (H o ho).1
    have h2 := (H' o ho).1
    omega
  | succ n ih =>
    intro o ho hn
    obtain ⟨a1, a2, a3⟩ := H o ho
    obtain ⟨b1, b2, b3⟩ := H' o ho
    rcases a3 with a3 | ⟨o', v', p', a3⟩
    · omega
    · have h1 := hd o' v'
      have h2 := ih o' v' (by omega)
      have h3 := b2 o' v' p'
      omega
theorem tail_unique {V : Int → Prop} {P : Int → Int → Prop} {d t t' : Int → Int} (hd : ∀ o, V o → 1 ≤ d o) (H : IsTail V P d t) (H' : IsTail V P d t') {o : Int} (ho : V o) : t o = t' o := by
  have h1 := tail_le hd H H' (t o).toNat o ho (by omega)
  have h2 := tail_le hd H' H (t' o).toNat o ho (by omega)
  omega
/-- a set of operations each of which has one ahead of it in the set: there is a way round -/
theorem head_none {V U : Int → Prop} {P : Int → Int → Prop} {d r h : Int → Int} (hd : ∀ o, V o → 1 ≤ d o) (hr : ∀ o, V o → 0 ≤ r o) (hU : ∀ o, U o → V o) (hp : ∀ o, U o → ∃ o', U o' ∧ P o' o) (H : IsHead V P d r h) : ∀ o, ¬ U o := by
  have key : ∀ (n : Nat) (o : Int), h o ≤ n → ¬ U o := by
    intro n
    induction n with
    | zero =>
      intro o hn ho
      obtain ⟨o', u', p'⟩ := hp o ho
      have h1 := (H o (hU o ho)).2.1 o' (hU o' u') p'
      have h2 := hd o' (hU o' u')
      have h3 := head_ge hr H (hU o' u')
      omega
    | succ n ih =>
      intro o hn ho
      obtain ⟨o', u', p'⟩ := hp o ho
      have h1 := (H o (hU o ho)).2.1 o' (hU o' u') p'
      have h2 := hd o' (hU o' u')
      exact ih o' (by omega) u'
  intro o
  exact key (h o).toNat o (by omega)
theorem max_unique {V : Int → Prop} {f : Int → Int} {m m' : Int} (h : IsMax V f m) (h' : IsMax V f m') : m = m' := by
  obtain ⟨a1, a2, a3⟩ := h
  obtain ⟨b1, b2, b3⟩ := h'
  rcases a3 with a3 | ⟨o, v, a3⟩
  · rcases b3 with b3 | ⟨o', v', b3⟩
    · omega
    · have := a2 o' v'
      omega
  · have := b2 o v
    rcases b3 with b3 | ⟨o', v', b3⟩
    · omega
    · have := a2 o' v'
      omega
/-- the longest way through an operation is the last end -/
theorem max_ends {V : Int → Prop} {P : Int → Int → Prop} {d r h t : Int → Int} (hd : ∀ o, V o → 1 ≤ d o) (H : IsHead V P d r h) (T : IsTail V P d t) {m e : Int} (hm : IsMax V (fun o => h o + d o + t o) m) (he : IsMax V (fun o => h o + d o) e) : m = e := by
  have key : ∀ (n : Nat) (o : Int), V o → t o ≤ n → h o + d o + t o ≤ e := by
    intro n
    induction n with
    | zero =>
      intro o ho hn
      have h1 := (T o ho).1
      have h2 := he.2.1 o ho
      simp only at h2
      omega
    | succ n ih =>
      intro o ho hn
      obtain ⟨a1, a2, a3⟩ := T o ho
      have h2 := he.2.1 o ho
      simp only at h2
      rcases a3 with a3 | ⟨o', v', p', a3⟩
      · omega
      · have h3 := hd o' v'
        have h4 := ih o' v' (by omega)
        have h5 := (H o' v').2.1 o ho p'
        omega
  obtain ⟨a1, a2, a3⟩ := hm
  obtain ⟨b1, b2, b3⟩ := he
  have h1 : m ≤ e := by
    rcases a3 with a3 | ⟨o, v, a3⟩
    · omega
    · have := key (t o).toNat o v (by omega)
      simp only at a3
      omega
  have h2 : e ≤ m := by
    rcases b3 with b3 | ⟨o, v, b3⟩
    · omega
    · have := a2 o v
      have := (T o v).1
      simp only at *
      omega
  omega
/-! the net of a row of routes: which operations there are, which go ahead -/
def vOp (st : Int → Int) (o : Int) : Prop := 0 ≤ o ∧ o < 16 ∧ o % 4 < st (o / 4)
def ca_X1_jobsOn : Nat → Option (Nat × Nat × Tr) := fun _ => none
theorem cao_X1_jobsOn (l : Launch) : ∀ k n' ci T', ca_X1_jobsOn k = some (n', ci, T') → ∃ nn, nn + 1 ≤ 0 ∧ Site l yX1_jobsOn.cls k n' ci nn T' := by
  intro k n' ci T' h
  cases h
def T_X1_jobsOn : Tr := fun a σ K => match a with
  | [.inr (.inl (1, n)), .inl m] => (0 ≤ m ∧ m < 4) ∧ ∀ r, 0 ≤ r → r < 16 → (∀ k, 0 ≤ k → k < 4 → (hasB r k ↔ 0 ≤ σ 19 n (4 * m + k))) → K (some r) σ
  | _ => False
set_option maxHeartbeats 8000000 in
set_option maxRecDepth 20000 in
theorem k_X1_jobsOn (l : Launch) : Ct l yX1_jobsOn cX1_jobsOn 4 (some .int) 0 T_X1_jobsOn := by
  refine mk_met (by decide +kernel) hCX1_jobsOn lCX1_jobsOn frX1_ok cstX1_ok (cao_X1_jobsOn l) ?_ ?_
  · intro a σ K h
    unfold T_X1_jobsOn at h
    split at h
    · simp [eL]
    · exact h.elim
  · intro a σ K ha hR h
    unfold T_X1_jobsOn at h
    split at h
    · rename_i n m
      refine ⟨fun pc => if pc = 4 then some (fun L S σ' k => match L, S with | [some (.inr (.inl c1)), some (.inl m'), some (.inl s), some (.inl j)], [] => (c1 = (1, n) ∧ m' = m ∧ 0 ≤ j ∧ j ≤ 4 ∧ 0 ≤ s ∧ s < 16 ∧ σ' = σ ∧ (∀ k, 0 ≤ k → k < 4 → (hasB s k ↔ (k < j ∧ 0 ≤ σ 19 n (4 * m + k))))) ∧ k = (4 - j).toNat | _, _ => False) else none, 200, ?_, ?_⟩
      · intro pc I L S σ' k hcut hi
        dsimp only at hcut
        split at hcut
        · rename_i hpc
          subst hpc
          cases hcut
          try dsimp only at hi
          split at hi
          · rename_i c1 m' s j
            obtain ⟨hi, rfl⟩ := hi
            obtain ⟨rfl, rfl, h0, h1, h2, h3, rfl, h4⟩ := hi
            simp only [wp, stp, drp, entL, eL, lget, lset, okst, cnd, swt, rcv, Kr_int, Kr_bool, Kr_void, List.length_cons, List.length_nil, List.replicate, List.append_nil, List.cons_append, List.nil_append, List.take_succ_cons, List.take_zero, List.drop_succ_cons, List.drop_zero, List.reverse_cons, List.reverse_nil, Option.map_some, Option.map_none, Option.toList_some, Option.toList_none, Nat.reduceAdd, Nat.reduceSub, Nat.reduceLT, Nat.reduceLeDiff, Nat.reduceEqDiff, ↓reduceIte, Nat.add_zero, Nat.zero_add, true_and, and_true, Nat.le_refl, reduceCtorEq, false_implies, true_implies, not_true_eq_false, not_false_eq_true, Int.reduceAdd, Int.reduceSub, Int.reduceMul, Int.reduceLE, Int.reduceLT, Int.reduceEq, Int.reduceNe, Int.reduceNeg, Int.reduceDiv, Int.reduceMod, Bool.false_eq_true, Int.le_refl, and_self, true_or, or_true, inR_l, fv0, fv1, fv2, fv3, nc2, nc4, nc6, nc16, nc25, nc60, nc65, nc80, nc130, nc384, nc390, fp_0_0, fp_0_1, fp_0_2, fp_1_0, fp_1_1, fp_1_2, fp_1_3, fp_1_4, fp_1_5, fp_1_6, fp_1_7, fp_1_8, fp_1_9, fp_1_10, fp_1_11, fp_1_12, fp_1_13, fp_1_14, fp_2_0, fp_2_1, fp_2_2, fp_2_3, fp_3_0, fp_3_1, fp_4_0, fp_4_1, fp_4_2, fp_4_3, fp_4_4, fp_4_5, fp_4_6, fp_4_7, fp_5_0, fp_5_1, fp_5_2, fp_5_3, fp_5_4, fp_5_5, fp_5_6, fp_5_7, fp_6_0, fp_6_1, fp_6_2, fp_6_3, fp_6_4, fp_6_5, fp_6_6, fp_6_7, fp_6_8, fp_6_9, fp_6_10, fp_6_11, fp_6_12, fp_6_13, fp_6_14, fp_6_15, fp_7_0, fp_7_1, fp_7_2, fp_7_3, fp_7_4, fp_7_5, fp_7_6, fp_7_7, fp_7_8, fp_7_9, fp_7_10, fp_7_11, fp_7_12, fp_7_13, fp_7_14, fp_7_15, fp_7_16, fp_7_17, fp_7_18, fp_7_19, fp_7_20, fp_7_21, fp_7_22, fp_7_23, fp_7_24, iz_0_1, iz_0_2, iz_1_8, iz_1_9, iz_1_11, iz_2_1, iz_2_2, iz_2_3, iz_3_1, iz_4_1, iz_4_2, iz_5_0, iz_6_8, iz_6_9, iz_6_13, iz_6_14, iz_6_15, iz_7_2, iz_7_6, iz_7_12, iz_7_20, iz_7_21, iz_7_23, iz_7_24, ak_8, ak_9, ak_10, ak_11, ak_12, ak_13, ak_14, ak_15, ak_16, ak_17, ak_18, ak_19, ak_20, ak_21, ak_22, ak_23, ak_24, ak_25, ak_26, ak_27, ak_28, ak_29, ak_30, ak_31, ak_32, ak_33, ak_34, ak_35, ak_36, ak_37, ak_38, ak_39, ak_40, ak_41, ak_42, ak_43, ak_44, ak_45, ak_46, ak_47, ak_48, ak_49, ak_50, ak_51, ak_52, ak_53, ak_54, ak_55, ak_56, el31, el33, el34, CX1_jobsOn, ca_X1_jobsOn, frX1, kcX1, klX1, hasB_def, exists_eq_right_right, exists_eq_right, exists_eq_left, Nat.lt_irrefl, and_self, implies_true, forall_const]
            obtain ⟨⟨hm0, hm1⟩, h⟩ := h
            refine ⟨fun a => h s h2 h3 (fun k p q => ?_), fun a => ⟨⟨by omega, by omega⟩, ⟨by omega, by omega⟩, ⟨by omega, by omega⟩, fun b => ⟨⟨by omega, by omega⟩, by omega, by omega, by omega, h2, h3, fun k p q => ?_⟩, fun b => ⟨⟨by omega, by omega⟩, by omega, by omega, by omega, (bit_or_r h2 h3 h0 (by omega)).1, (bit_or_r h2 h3 h0 (by omega)).2, fun k p q => ?_⟩⟩⟩
            · rw [h4 k p q]
              omega
            · rw [h4 k p q]
              rcases (show k < j ∨ k = j ∨ j < k by omega) with c | rfl | c <;> omega
            · rw [bit_or h2 h3 h0 (by omega) p q, h4 k p q]
              rcases (show k < j ∨ k = j ∨ j < k by omega) with c | rfl | c <;> omega
          · exact hi.elim
        · cases hcut
      · simp only [wp, stp, drp, entL, eL, lget, lset, okst, cnd, swt, rcv, Kr_int, Kr_bool, Kr_void, List.length_cons, List.length_nil, List.replicate, List.append_nil, List.cons_append, List.nil_append, List.take_succ_cons, List.take_zero, List.drop_succ_cons, List.drop_zero, List.reverse_cons, List.reverse_nil, Option.map_some, Option.map_none, Option.toList_some, Option.toList_none, Nat.reduceAdd, Nat.reduceSub, Nat.reduceLT, Nat.reduceLeDiff, Nat.reduceEqDiff, ↓reduceIte, Nat.add_zero, Nat.zero_add, true_and, and_true, Nat.le_refl, reduceCtorEq, false_implies, true_implies, not_true_eq_false, not_false_eq_true, Int.reduceAdd, Int.reduceSub, Int.reduceMul, Int.reduceLE, Int.reduceLT, Int.reduceEq, Int.reduceNe, Int.reduceNeg, Int.reduceDiv, Int.reduceMod, Bool.false_eq_true, Int.le_refl, and_self, true_or, or_true, inR_l, fv0, fv1, fv2, fv3, nc2, nc4, nc6, nc16, nc25, nc60, nc65, nc80, nc130, nc384, nc390, fp_0_0, fp_0_1, fp_0_2, fp_1_0, fp_1_1, fp_1_2, fp_1_3, fp_1_4, fp_1_5, fp_1_6, fp_1_7, fp_1_8, fp_1_9, fp_1_10, fp_1_11, fp_1_12, fp_1_13, fp_1_14, fp_2_0, fp_2_1, fp_2_2, fp_2_3, fp_3_0, fp_3_1, fp_4_0, fp_4_1, fp_4_2, fp_4_3, fp_4_4, fp_4_5, fp_4_6, fp_4_7, fp_5_0, fp_5_1, fp_5_2, fp_5_3, fp_5_4, fp_5_5, fp_5_6, fp_5_7, fp_6_0, fp_6_1, fp_6_2, fp_6_3, fp_6_4, fp_6_5, fp_6_6, fp_6_7, fp_6_8, fp_6_9, fp_6_10, fp_6_11, fp_6_12, fp_6_13, fp_6_14, fp_6_15, fp_7_0, fp_7_1, fp_7_2, fp_7_3, fp_7_4, fp_7_5, fp_7_6, fp_7_7, fp_7_8, fp_7_9, fp_7_10, fp_7_11, fp_7_12, fp_7_13, fp_7_14, fp_7_15, fp_7_16, fp_7_17, fp_7_18, fp_7_19, fp_7_20, fp_7_21, fp_7_22, fp_7_23, fp_7_24, iz_0_1, iz_0_2, iz_1_8, iz_1_9, iz_1_11, iz_2_1, iz_2_2, iz_2_3, iz_3_1, iz_4_1, iz_4_2, iz_5_0, iz_6_8, iz_6_9, iz_6_13, iz_6_14, iz_6_15, iz_7_2, iz_7_6, iz_7_12, iz_7_20, iz_7_21, iz_7_23, iz_7_24, ak_8, ak_9, ak_10, ak_11, ak_12, ak_13, ak_14, ak_15, ak_16, ak_17, ak_18, ak_19, ak_20, ak_21, ak_22, ak_23, ak_24, ak_25, ak_26, ak_27, ak_28, ak_29, ak_30, ak_31, ak_32, ak_33, ak_34, ak_35, ak_36, ak_37, ak_38, ak_39, ak_40, ak_41, ak_42, ak_43, ak_44, ak_45, ak_46, ak_47, ak_48, ak_49, ak_50, ak_51, ak_52, ak_53, ak_54, ak_55, ak_56, el31, el33, el34, CX1_jobsOn, ca_X1_jobsOn, frX1, kcX1, klX1, hasB_def, exists_eq_right_right, exists_eq_right, exists_eq_left, Nat.lt_irrefl, and_self, implies_true, forall_const]
        intro k a b
        exact ⟨fun q => absurd q (bit_0 a b), fun q => absurd q.1 (by omega)⟩
    · exact h.elim
end
section
/-- the operation of the job k on the machine of o; its end; its way behind -/
def oN (σ : Mem) (n : Nat) (o k : Int) : Int := σ 19 n (4 * σ 16 n o + k)
def eH (σ : Mem) (n : Nat) (o k : Int) : Int := σ 21 n (oN σ n o k) + σ 17 n (oN σ n o k)
def tE (σ : Mem) (n : Nat) (o k : Int) : Int := σ 17 n (oN σ n o k) + σ 22 n (oN σ n o k)
/-- the head of o, over the first j jobs ahead -/
def HI (σ : Mem) (n : Nat) (o r j : Int) : Prop := σ 18 n o ≤ r ∧ (o % 4 ≠ 0 → σ 21 n (o - 1) + σ 17 n (o - 1) ≤ r) ∧ (∀ k, 0 ≤ k → k < j → hasB (σ 20 n o) k → eH σ n o k ≤ r) ∧ (r = σ 18 n o ∨ (o % 4 ≠ 0 ∧ r = σ 21 n (o - 1) + σ 17 n (o - 1)) ∨ ∃ k, 0 ≤ k ∧ k < 4 ∧ hasB (σ 20 n o) k ∧ r = eH σ n o k)
theorem HI_z {σ : Mem} {n : Nat} {o r j : Int} (h : HI σ n o r j) (hz : σ 20 n o = 0) : HI σ n o r 4 := ⟨h.1, h.2.1, fun k a b c => absurd c (by rw [hz]; exact bit_0 a b), h.2.2.2⟩
theorem HI_4 {σ : Mem} {n : Nat} {o r j : Int} (h : HI σ n o r j) (hz : 4 ≤ j) : HI σ n o r 4 := ⟨h.1, h.2.1, fun k a b c => h.2.2.1 k a (by omega) c, h.2.2.2⟩
theorem HI_skip {σ : Mem} {n : Nat} {o r j : Int} (h : HI σ n o r j) (hb : ¬ hasB (σ 20 n o) j) : HI σ n o r (j + 1) := ⟨h.1, h.2.1, fun k a b c => by
  rcases (show k < j ∨ k = j by omega) with q | rfl
  · exact h.2.2.1 k a q c
  · exact absurd c hb, h.2.2.2⟩
theorem HI_keep {σ : Mem} {n : Nat} {o r j : Int} (h : HI σ n o r j) (hb : σ 21 n (σ 19 n (4 * σ 16 n o + j)) + σ 17 n (σ 19 n (4 * σ 16 n o + j)) ≤ r) : HI σ n o r (j + 1) := ⟨h.1, h.2.1, fun k a b c => by
  rcases (show k < j ∨ k = j by omega) with q | rfl
  · exact h.2.2.1 k a q c
  · exact hb, h.2.2.2⟩
theorem HI_take {σ : Mem} {n : Nat} {o r j : Int} (h : HI σ n o r j) (h0 : 0 ≤ j) (h1 : ¬ 4 ≤ j) (hb : ¬ ¬ hasB (σ 20 n o) j) (hc : ¬ σ 21 n (σ 19 n (4 * σ 16 n o + j)) + σ 17 n (σ 19 n (4 * σ 16 n o + j)) ≤ r) : HI σ n o (σ 21 n (σ 19 n (4 * σ 16 n o + j)) + σ 17 n (σ 19 n (4 * σ 16 n o + j))) (j + 1) := by
  obtain ⟨a1, a2, a3, a4⟩ := h
  refine ⟨by omega, fun q => by have := a2 q; omega, fun k a b c => ?_, Or.inr (Or.inr ⟨j, h0, by omega, Classical.not_not.mp hb, rfl⟩)⟩
  rcases (show k < j ∨ k = j by omega) with q | rfl
  · have := a3 k a q c
    omega
  · exact Int.le_refl _
theorem HI_a {σ : Mem} {n : Nat} {o : Int} (h : ¬ o % 4 ≠ 0) : HI σ n o (σ 18 n o) 0 := ⟨Int.le_refl _, fun q => absurd q h, fun k a b => by omega, Or.inl rfl⟩
theorem HI_b {σ : Mem} {n : Nat} {o : Int} (h : σ 21 n (o - 1) + σ 17 n (o - 1) ≤ σ 18 n o) : HI σ n o (σ 18 n o) 0 := ⟨Int.le_refl _, fun q => h, fun k a b => by omega, Or.inl rfl⟩
theorem HI_c {σ : Mem} {n : Nat} {o : Int} (hq : o % 4 ≠ 0) (h : ¬ σ 21 n (o - 1) + σ 17 n (o - 1) ≤ σ 18 n o) : HI σ n o (σ 21 n (o - 1) + σ 17 n (o - 1)) 0 := ⟨by omega, fun q => Int.le_refl _, fun k a b => by omega, Or.inr (Or.inl ⟨hq, rfl⟩)⟩
def ca_X1_headOf : Nat → Option (Nat × Nat × Tr) := fun _ => none
theorem cao_X1_headOf (l : Launch) : ∀ k n' ci T', ca_X1_headOf k = some (n', ci, T') → ∃ nn, nn + 1 ≤ 0 ∧ Site l yX1_headOf.cls k n' ci nn T' := by
  intro k n' ci T' h
  cases h
def T_X1_headOf : Tr := fun a σ K => match a with
  | [.inr (.inl (1, n)), .inl o] => (0 ≤ o ∧ o < 16 ∧ 0 ≤ σ 16 n o ∧ σ 16 n o < 4 ∧ (o % 4 ≠ 0 → inR (σ 21 n (o - 1) + σ 17 n (o - 1))) ∧ (∀ k, 0 ≤ k → k < 4 → hasB (σ 20 n o) k → 0 ≤ σ 19 n (4 * σ 16 n o + k) ∧ σ 19 n (4 * σ 16 n o + k) < 16 ∧ inR (σ 21 n (σ 19 n (4 * σ 16 n o + k)) + σ 17 n (σ 19 n (4 * σ 16 n o + k))))) ∧ ∀ r, HI σ n o r 4 → K (some r) σ
  | _ => False
set_option maxHeartbeats 8000000 in
set_option maxRecDepth 20000 in
theorem k_X1_headOf (l : Launch) : Ct l yX1_headOf cX1_headOf 7 (some .int) 0 T_X1_headOf := by
  refine mk_met (by decide +kernel) hCX1_headOf lCX1_headOf frX1_ok cstX1_ok (cao_X1_headOf l) ?_ ?_
  · intro a σ K h
    unfold T_X1_headOf at h
    split at h
    · simp [eL]
    · exact h.elim
  · intro a σ K ha hR h
    unfold T_X1_headOf at h
    split at h
    · rename_i n o
      refine ⟨fun pc => if pc = 52 then some (fun L S σ' k => match L, S with | [some (.inr (.inl c1)), some (.inl o'), some (.inl r), some (.inl ja), some (.inl j), _, _], [] => (c1 = (1, n) ∧ o' = o ∧ ja = σ 20 n o ∧ σ' = σ ∧ 0 ≤ j ∧ j ≤ 4 ∧ HI σ n o r j) ∧ k = (4 - j).toNat | _, _ => False) else none, 200, ?_, ?_⟩
      · intro pc I L S σ' k hcut hi
        dsimp only at hcut
        split at hcut
        · rename_i hpc
          subst hpc
          cases hcut
          try dsimp only at hi
          split at hi
          · rename_i c1 o' r ja j x1 x2
            obtain ⟨hi, rfl⟩ := hi
            obtain ⟨rfl, rfl, rfl, rfl, h0, h1, h2⟩ := hi
            obtain ⟨⟨p1, p2, p3, p4, p5, p6⟩, h⟩ := h
            simp only [wp, stp, drp, entL, eL, lget, lset, okst, cnd, swt, rcv, Kr_int, Kr_bool, Kr_void, List.length_cons, List.length_nil, List.replicate, List.append_nil, List.cons_append, List.nil_append, List.take_succ_cons, List.take_zero, List.drop_succ_cons, List.drop_zero, List.reverse_cons, List.reverse_nil, Option.map_some, Option.map_none, Option.toList_some, Option.toList_none, Nat.reduceAdd, Nat.reduceSub, Nat.reduceLT, Nat.reduceLeDiff, Nat.reduceEqDiff, ↓reduceIte, Nat.add_zero, Nat.zero_add, true_and, and_true, Nat.le_refl, reduceCtorEq, false_implies, true_implies, not_true_eq_false, not_false_eq_true, Int.reduceAdd, Int.reduceSub, Int.reduceMul, Int.reduceLE, Int.reduceLT, Int.reduceEq, Int.reduceNe, Int.reduceNeg, Int.reduceDiv, Int.reduceMod, Bool.false_eq_true, Int.le_refl, and_self, true_or, or_true, inR_l, fv0, fv1, fv2, fv3, nc2, nc4, nc6, nc16, nc25, nc60, nc65, nc80, nc130, nc384, nc390, fp_0_0, fp_0_1, fp_0_2, fp_1_0, fp_1_1, fp_1_2, fp_1_3, fp_1_4, fp_1_5, fp_1_6, fp_1_7, fp_1_8, fp_1_9, fp_1_10, fp_1_11, fp_1_12, fp_1_13, fp_1_14, fp_2_0, fp_2_1, fp_2_2, fp_2_3, fp_3_0, fp_3_1, fp_4_0, fp_4_1, fp_4_2, fp_4_3, fp_4_4, fp_4_5, fp_4_6, fp_4_7, fp_5_0, fp_5_1, fp_5_2, fp_5_3, fp_5_4, fp_5_5, fp_5_6, fp_5_7, fp_6_0, fp_6_1, fp_6_2, fp_6_3, fp_6_4, fp_6_5, fp_6_6, fp_6_7, fp_6_8, fp_6_9, fp_6_10, fp_6_11, fp_6_12, fp_6_13, fp_6_14, fp_6_15, fp_7_0, fp_7_1, fp_7_2, fp_7_3, fp_7_4, fp_7_5, fp_7_6, fp_7_7, fp_7_8, fp_7_9, fp_7_10, fp_7_11, fp_7_12, fp_7_13, fp_7_14, fp_7_15, fp_7_16, fp_7_17, fp_7_18, fp_7_19, fp_7_20, fp_7_21, fp_7_22, fp_7_23, fp_7_24, iz_0_1, iz_0_2, iz_1_8, iz_1_9, iz_1_11, iz_2_1, iz_2_2, iz_2_3, iz_3_1, iz_4_1, iz_4_2, iz_5_0, iz_6_8, iz_6_9, iz_6_13, iz_6_14, iz_6_15, iz_7_2, iz_7_6, iz_7_12, iz_7_20, iz_7_21, iz_7_23, iz_7_24, ak_8, ak_9, ak_10, ak_11, ak_12, ak_13, ak_14, ak_15, ak_16, ak_17, ak_18, ak_19, ak_20, ak_21, ak_22, ak_23, ak_24, ak_25, ak_26, ak_27, ak_28, ak_29, ak_30, ak_31, ak_32, ak_33, ak_34, ak_35, ak_36, ak_37, ak_38, ak_39, ak_40, ak_41, ak_42, ak_43, ak_44, ak_45, ak_46, ak_47, ak_48, ak_49, ak_50, ak_51, ak_52, ak_53, ak_54, ak_55, ak_56, el31, el33, el34, CX1_headOf, ca_X1_headOf, frX1, kcX1, klX1, hasB_def, exists_eq_right_right, exists_eq_right, exists_eq_left, Nat.lt_irrefl, and_self, implies_true, forall_const]
            refine ⟨fun a => h _ (HI_z h2 a), fun a => ⟨fun b => h _ (HI_4 h2 b), fun b => ⟨fun c => ⟨⟨by omega, by omega⟩, by omega, by omega, by omega, HI_skip h2 c⟩, fun c => ?_⟩⟩⟩
            obtain ⟨q1, q2, q3⟩ := p6 j h0 (by omega) (Classical.not_not.mp c)
            refine ⟨⟨p1, p2⟩, ⟨by omega, by omega⟩, ⟨by omega, by omega⟩, ⟨by omega, by omega⟩, fun d => absurd d (by omega), fun d => ⟨⟨q1, q2⟩, ⟨q1, q2⟩, q3, fun e => ⟨⟨by omega, by omega⟩, by omega, by omega, by omega, HI_keep h2 e⟩, fun e => ⟨⟨by omega, by omega⟩, by omega, by omega, by omega, HI_take h2 h0 b c e⟩⟩⟩
          · exact hi.elim
        · cases hcut
      · simp only [wp, stp, drp, entL, eL, lget, lset, okst, cnd, swt, rcv, Kr_int, Kr_bool, Kr_void, List.length_cons, List.length_nil, List.replicate, List.append_nil, List.cons_append, List.nil_append, List.take_succ_cons, List.take_zero, List.drop_succ_cons, List.drop_zero, List.reverse_cons, List.reverse_nil, Option.map_some, Option.map_none, Option.toList_some, Option.toList_none, Nat.reduceAdd, Nat.reduceSub, Nat.reduceLT, Nat.reduceLeDiff, Nat.reduceEqDiff, ↓reduceIte, Nat.add_zero, Nat.zero_add, true_and, and_true, Nat.le_refl, reduceCtorEq, false_implies, true_implies, not_true_eq_false, not_false_eq_true, Int.reduceAdd, Int.reduceSub, Int.reduceMul, Int.reduceLE, Int.reduceLT, Int.reduceEq, Int.reduceNe, Int.reduceNeg, Int.reduceDiv, Int.reduceMod, Bool.false_eq_true, Int.le_refl, and_self, true_or, or_true, inR_l, fv0, fv1, fv2, fv3, nc2, nc4, nc6, nc16, nc25, nc60, nc65, nc80, nc130, nc384, nc390, fp_0_0, fp_0_1, fp_0_2, fp_1_0, fp_1_1, fp_1_2, fp_1_3, fp_1_4, fp_1_5, fp_1_6, fp_1_7, fp_1_8, fp_1_9, fp_1_10, fp_1_11, fp_1_12, fp_1_13, fp_1_14, fp_2_0, fp_2_1, fp_2_2, fp_2_3, fp_3_0, fp_3_1, fp_4_0, fp_4_1, fp_4_2, fp_4_3, fp_4_4, fp_4_5, fp_4_6, fp_4_7, fp_5_0, fp_5_1, fp_5_2, fp_5_3, fp_5_4, fp_5_5, fp_5_6, fp_5_7, fp_6_0, fp_6_1, fp_6_2, fp_6_3, fp_6_4, fp_6_5, fp_6_6, fp_6_7, fp_6_8, fp_6_9, fp_6_10, fp_6_11, fp_6_12, fp_6_13, fp_6_14, fp_6_15, fp_7_0, fp_7_1, fp_7_2, fp_7_3, fp_7_4, fp_7_5, fp_7_6, fp_7_7, fp_7_8, fp_7_9, fp_7_10, fp_7_11, fp_7_12, fp_7_13, fp_7_14, fp_7_15, fp_7_16, fp_7_17, fp_7_18, fp_7_19, fp_7_20, fp_7_21, fp_7_22, fp_7_23, fp_7_24, iz_0_1, iz_0_2, iz_1_8, iz_1_9, iz_1_11, iz_2_1, iz_2_2, iz_2_3, iz_3_1, iz_4_1, iz_4_2, iz_5_0, iz_6_8, iz_6_9, iz_6_13, iz_6_14, iz_6_15, iz_7_2, iz_7_6, iz_7_12, iz_7_20, iz_7_21, iz_7_23, iz_7_24, ak_8, ak_9, ak_10, ak_11, ak_12, ak_13, ak_14, ak_15, ak_16, ak_17, ak_18, ak_19, ak_20, ak_21, ak_22, ak_23, ak_24, ak_25, ak_26, ak_27, ak_28, ak_29, ak_30, ak_31, ak_32, ak_33, ak_34, ak_35, ak_36, ak_37, ak_38, ak_39, ak_40, ak_41, ak_42, ak_43, ak_44, ak_45, ak_46, ak_47, ak_48, ak_49, ak_50, ak_51, ak_52, ak_53, ak_54, ak_55, ak_56, el31, el33, el34, CX1_headOf, ca_X1_headOf, frX1, kcX1, klX1, hasB_def, exists_eq_right_right, exists_eq_right, exists_eq_left, Nat.lt_irrefl, and_self, implies_true, forall_const]
        obtain ⟨⟨p1, p2, p3, p4, p5, p6⟩, h⟩ := h
        refine ⟨⟨p1, p2⟩, p1, fun a => ⟨⟨p1, p2⟩, HI_a (by omega)⟩, fun a => ⟨⟨by omega, by omega⟩, ⟨by omega, by omega⟩, ⟨by omega, by omega⟩, ⟨by omega, by omega⟩, p5 (by omega), fun b => ⟨⟨p1, p2⟩, HI_b b⟩, fun b => ⟨⟨p1, p2⟩, HI_c (by omega) b⟩⟩⟩
    · exact h.elim
end
section
/-- the tail of o, over the first j jobs behind -/
def TI (σ : Mem) (n : Nat) (o r j : Int) : Prop := 0 ≤ r ∧ (o % 4 + 1 < σ 15 n (o / 4) → σ 17 n (o + 1) + σ 22 n (o + 1) ≤ r) ∧ (∀ k, 0 ≤ k → k < j → 0 ≤ oN σ n o k → hasB (σ 20 n (oN σ n o k)) (o / 4) → tE σ n o k ≤ r) ∧ (r = 0 ∨ (o % 4 + 1 < σ 15 n (o / 4) ∧ r = σ 17 n (o + 1) + σ 22 n (o + 1)) ∨ ∃ k, 0 ≤ k ∧ k < 4 ∧ 0 ≤ oN σ n o k ∧ hasB (σ 20 n (oN σ n o k)) (o / 4) ∧ r = tE σ n o k)
theorem TI_4 {σ : Mem} {n : Nat} {o r j : Int} (h : TI σ n o r j) (hz : 4 ≤ j) : TI σ n o r 4 := ⟨h.1, h.2.1, fun k a b c => h.2.2.1 k a (by omega) c, h.2.2.2⟩
theorem TI_n {σ : Mem} {n : Nat} {o r j : Int} (h : TI σ n o r j) (hb : σ 19 n (4 * σ 16 n o + j) < 0) : TI σ n o r (j + 1) := ⟨h.1, h.2.1, fun k a b c d => by
  rcases (show k < j ∨ k = j by omega) with q | rfl
  · exact h.2.2.1 k a q c d
  · exact absurd c (by show ¬ 0 ≤ σ 19 n (4 * σ 16 n o + k); omega), h.2.2.2⟩
theorem TI_skip {σ : Mem} {n : Nat} {o r j : Int} (h : TI σ n o r j) (hb : ¬ hasB (σ 20 n (σ 19 n (4 * σ 16 n o + j))) (o / 4)) : TI σ n o r (j + 1) := ⟨h.1, h.2.1, fun k a b c d => by
  rcases (show k < j ∨ k = j by omega) with q | rfl
  · exact h.2.2.1 k a q c d
  · exact absurd d hb, h.2.2.2⟩
theorem TI_keep {σ : Mem} {n : Nat} {o r j : Int} (h : TI σ n o r j) (hb : σ 17 n (σ 19 n (4 * σ 16 n o + j)) + σ 22 n (σ 19 n (4 * σ 16 n o + j)) ≤ r) : TI σ n o r (j + 1) := ⟨h.1, h.2.1, fun k a b c d => by
  rcases (show k < j ∨ k = j by omega) with q | rfl
  · exact h.2.2.1 k a q c d
  · exact hb, h.2.2.2⟩
theorem TI_take {σ : Mem} {n : Nat} {o r j : Int} (h : TI σ n o r j) (h0 : 0 ≤ j) (h1 : ¬ 4 ≤ j) (hn : ¬ σ 19 n (4 * σ 16 n o + j) < 0) (hb : ¬ ¬ hasB (σ 20 n (σ 19 n (4 * σ 16 n o + j))) (o / 4)) (hc : ¬ σ 17 n (σ 19 n (4 * σ 16 n o + j)) + σ 22 n (σ 19 n (4 * σ 16 n o + j)) ≤ r) : TI σ n o (σ 17 n (σ 19 n (4 * σ 16 n o + j)) + σ 22 n (σ 19 n (4 * σ 16 n o + j))) (j + 1) := by
  obtain ⟨a1, a2, a3, a4⟩ := h
  refine ⟨by omega, fun q => by have := a2 q; omega, fun k a b c d => ?_, Or.inr (Or.inr ⟨j, h0, by omega, by show 0 ≤ σ 19 n (4 * σ 16 n o + j); omega, Classical.not_not.mp hb, rfl⟩)⟩
  rcases (show k < j ∨ k = j by omega) with q | rfl
  · have := a3 k a q c d
    omega
  · exact Int.le_refl _
theorem TI_a {σ : Mem} {n : Nat} {o : Int} (h : σ 15 n (o / 4) ≤ o % 4 + 1) : TI σ n o 0 0 := ⟨Int.le_refl _, fun q => absurd q (by omega), fun k a b => by omega, Or.inl rfl⟩
theorem TI_b {σ : Mem} {n : Nat} {o : Int} (h : ¬ σ 15 n (o / 4) ≤ o % 4 + 1) (h2 : 0 ≤ σ 17 n (o + 1) + σ 22 n (o + 1)) : TI σ n o (σ 17 n (o + 1) + σ 22 n (o + 1)) 0 := ⟨h2, fun q => Int.le_refl _, fun k a b => by omega, Or.inr (Or.inl ⟨by omega, rfl⟩)⟩
def ca_X1_tailOf : Nat → Option (Nat × Nat × Tr) := fun _ => none
theorem cao_X1_tailOf (l : Launch) : ∀ k n' ci T', ca_X1_tailOf k = some (n', ci, T') → ∃ nn, nn + 1 ≤ 0 ∧ Site l yX1_tailOf.cls k n' ci nn T' := by
  intro k n' ci T' h
  cases h
def T_X1_tailOf : Tr := fun a σ K => match a with
  | [.inr (.inl (1, n)), .inl o] => (0 ≤ o ∧ o < 16 ∧ 0 ≤ σ 16 n o ∧ σ 16 n o < 4 ∧ σ 15 n (o / 4) ≤ 4 ∧ (o % 4 + 1 < σ 15 n (o / 4) → 0 ≤ σ 17 n (o + 1) + σ 22 n (o + 1) ∧ inR (σ 17 n (o + 1) + σ 22 n (o + 1))) ∧ (∀ k, 0 ≤ k → k < 4 → σ 19 n (4 * σ 16 n o + k) < 16 ∧ (0 ≤ σ 19 n (4 * σ 16 n o + k) → hasB (σ 20 n (σ 19 n (4 * σ 16 n o + k))) (o / 4) → inR (σ 17 n (σ 19 n (4 * σ 16 n o + k)) + σ 22 n (σ 19 n (4 * σ 16 n o + k)))))) ∧ ∀ r, TI σ n o r 4 → K (some r) σ
  | _ => False
set_option maxHeartbeats 8000000 in
set_option maxRecDepth 20000 in
theorem k_X1_tailOf (l : Launch) : Ct l yX1_tailOf cX1_tailOf 7 (some .int) 0 T_X1_tailOf := by
  refine mk_met (by decide +kernel) hCX1_tailOf lCX1_tailOf frX1_ok cstX1_ok (cao_X1_tailOf l) ?_ ?_
  · intro a σ K h
    unfold T_X1_tailOf at h
    split at h
    · simp [eL]
    · exact h.elim
  · intro a σ K ha hR h
    unfold T_X1_tailOf at h
    split at h
    · rename_i n o
      refine ⟨fun pc => if pc = 41 then some (fun L S σ' k => match L, S with | [some (.inr (.inl c1)), some (.inl o'), some (.inl jb), some (.inl r), some (.inl j), _, _], [] => (c1 = (1, n) ∧ o' = o ∧ jb = o / 4 ∧ σ' = σ ∧ 0 ≤ j ∧ j ≤ 4 ∧ TI σ n o r j) ∧ k = (4 - j).toNat | _, _ => False) else none, 200, ?_, ?_⟩
      · intro pc I L S σ' k hcut hi
        dsimp only at hcut
        split at hcut
        · rename_i hpc
          subst hpc
          cases hcut
          try dsimp only at hi
          split at hi
          · rename_i c1 o' jb r j x1 x2
            obtain ⟨hi, rfl⟩ := hi
            obtain ⟨rfl, rfl, rfl, rfl, h0, h1, h2⟩ := hi
            obtain ⟨⟨p1, p2, p3, p4, p5, p6, p7⟩, h⟩ := h
            simp only [wp, stp, drp, entL, eL, lget, lset, okst, cnd, swt, rcv, Kr_int, Kr_bool, Kr_void, List.length_cons, List.length_nil, List.replicate, List.append_nil, List.cons_append, List.nil_append, List.take_succ_cons, List.take_zero, List.drop_succ_cons, List.drop_zero, List.reverse_cons, List.reverse_nil, Option.map_some, Option.map_none, Option.toList_some, Option.toList_none, Nat.reduceAdd, Nat.reduceSub, Nat.reduceLT, Nat.reduceLeDiff, Nat.reduceEqDiff, ↓reduceIte, Nat.add_zero, Nat.zero_add, true_and, and_true, Nat.le_refl, reduceCtorEq, false_implies, true_implies, not_true_eq_false, not_false_eq_true, Int.reduceAdd, Int.reduceSub, Int.reduceMul, Int.reduceLE, Int.reduceLT, Int.reduceEq, Int.reduceNe, Int.reduceNeg, Int.reduceDiv, Int.reduceMod, Bool.false_eq_true, Int.le_refl, and_self, true_or, or_true, inR_l, fv0, fv1, fv2, fv3, nc2, nc4, nc6, nc16, nc25, nc60, nc65, nc80, nc130, nc384, nc390, fp_0_0, fp_0_1, fp_0_2, fp_1_0, fp_1_1, fp_1_2, fp_1_3, fp_1_4, fp_1_5, fp_1_6, fp_1_7, fp_1_8, fp_1_9, fp_1_10, fp_1_11, fp_1_12, fp_1_13, fp_1_14, fp_2_0, fp_2_1, fp_2_2, fp_2_3, fp_3_0, fp_3_1, fp_4_0, fp_4_1, fp_4_2, fp_4_3, fp_4_4, fp_4_5, fp_4_6, fp_4_7, fp_5_0, fp_5_1, fp_5_2, fp_5_3, fp_5_4, fp_5_5, fp_5_6, fp_5_7, fp_6_0, fp_6_1, fp_6_2, fp_6_3, fp_6_4, fp_6_5, fp_6_6, fp_6_7, fp_6_8, fp_6_9, fp_6_10, fp_6_11, fp_6_12, fp_6_13, fp_6_14, fp_6_15, fp_7_0, fp_7_1, fp_7_2, fp_7_3, fp_7_4, fp_7_5, fp_7_6, fp_7_7, fp_7_8, fp_7_9, fp_7_10, fp_7_11, fp_7_12, fp_7_13, fp_7_14, fp_7_15, fp_7_16, fp_7_17, fp_7_18, fp_7_19, fp_7_20, fp_7_21, fp_7_22, fp_7_23, fp_7_24, iz_0_1, iz_0_2, iz_1_8, iz_1_9, iz_1_11, iz_2_1, iz_2_2, iz_2_3, iz_3_1, iz_4_1, iz_4_2, iz_5_0, iz_6_8, iz_6_9, iz_6_13, iz_6_14, iz_6_15, iz_7_2, iz_7_6, iz_7_12, iz_7_20, iz_7_21, iz_7_23, iz_7_24, ak_8, ak_9, ak_10, ak_11, ak_12, ak_13, ak_14, ak_15, ak_16, ak_17, ak_18, ak_19, ak_20, ak_21, ak_22, ak_23, ak_24, ak_25, ak_26, ak_27, ak_28, ak_29, ak_30, ak_31, ak_32, ak_33, ak_34, ak_35, ak_36, ak_37, ak_38, ak_39, ak_40, ak_41, ak_42, ak_43, ak_44, ak_45, ak_46, ak_47, ak_48, ak_49, ak_50, ak_51, ak_52, ak_53, ak_54, ak_55, ak_56, el31, el33, el34, CX1_tailOf, ca_X1_tailOf, frX1, kcX1, klX1, hasB_def, exists_eq_right_right, exists_eq_right, exists_eq_left, Nat.lt_irrefl, and_self, implies_true, forall_const]
            refine ⟨fun b => h _ (TI_4 h2 b), fun b => ?_⟩
            obtain ⟨q2, q3⟩ := p7 j h0 (by omega)
            refine ⟨⟨p1, p2⟩, ⟨by omega, by omega⟩, ⟨by omega, by omega⟩, ⟨by omega, by omega⟩, fun d => ⟨⟨by omega, by omega⟩, by omega, by omega, by omega, TI_n h2 d⟩, fun d => ⟨⟨by omega, q2⟩, fun c => ⟨⟨by omega, by omega⟩, by omega, by omega, by omega, TI_skip h2 c⟩, fun c => ⟨⟨by omega, q2⟩, ⟨by omega, q2⟩, q3 (by omega) (Classical.not_not.mp c), fun e => ⟨⟨by omega, by omega⟩, by omega, by omega, by omega, TI_keep h2 e⟩, fun e => ⟨⟨by omega, by omega⟩, by omega, by omega, by omega, TI_take h2 h0 b d c e⟩⟩⟩⟩
          · exact hi.elim
        · cases hcut
      · simp only [wp, stp, drp, entL, eL, lget, lset, okst, cnd, swt, rcv, Kr_int, Kr_bool, Kr_void, List.length_cons, List.length_nil, List.replicate, List.append_nil, List.cons_append, List.nil_append, List.take_succ_cons, List.take_zero, List.drop_succ_cons, List.drop_zero, List.reverse_cons, List.reverse_nil, Option.map_some, Option.map_none, Option.toList_some, Option.toList_none, Nat.reduceAdd, Nat.reduceSub, Nat.reduceLT, Nat.reduceLeDiff, Nat.reduceEqDiff, ↓reduceIte, Nat.add_zero, Nat.zero_add, true_and, and_true, Nat.le_refl, reduceCtorEq, false_implies, true_implies, not_true_eq_false, not_false_eq_true, Int.reduceAdd, Int.reduceSub, Int.reduceMul, Int.reduceLE, Int.reduceLT, Int.reduceEq, Int.reduceNe, Int.reduceNeg, Int.reduceDiv, Int.reduceMod, Bool.false_eq_true, Int.le_refl, and_self, true_or, or_true, inR_l, fv0, fv1, fv2, fv3, nc2, nc4, nc6, nc16, nc25, nc60, nc65, nc80, nc130, nc384, nc390, fp_0_0, fp_0_1, fp_0_2, fp_1_0, fp_1_1, fp_1_2, fp_1_3, fp_1_4, fp_1_5, fp_1_6, fp_1_7, fp_1_8, fp_1_9, fp_1_10, fp_1_11, fp_1_12, fp_1_13, fp_1_14, fp_2_0, fp_2_1, fp_2_2, fp_2_3, fp_3_0, fp_3_1, fp_4_0, fp_4_1, fp_4_2, fp_4_3, fp_4_4, fp_4_5, fp_4_6, fp_4_7, fp_5_0, fp_5_1, fp_5_2, fp_5_3, fp_5_4, fp_5_5, fp_5_6, fp_5_7, fp_6_0, fp_6_1, fp_6_2, fp_6_3, fp_6_4, fp_6_5, fp_6_6, fp_6_7, fp_6_8, fp_6_9, fp_6_10, fp_6_11, fp_6_12, fp_6_13, fp_6_14, fp_6_15, fp_7_0, fp_7_1, fp_7_2, fp_7_3, fp_7_4, fp_7_5, fp_7_6, fp_7_7, fp_7_8, fp_7_9, fp_7_10, fp_7_11, fp_7_12, fp_7_13, fp_7_14, fp_7_15, fp_7_16, fp_7_17, fp_7_18, fp_7_19, fp_7_20, fp_7_21, fp_7_22, fp_7_23, fp_7_24, iz_0_1, iz_0_2, iz_1_8, iz_1_9, iz_1_11, iz_2_1, iz_2_2, iz_2_3, iz_3_1, iz_4_1, iz_4_2, iz_5_0, iz_6_8, iz_6_9, iz_6_13, iz_6_14, iz_6_15, iz_7_2, iz_7_6, iz_7_12, iz_7_20, iz_7_21, iz_7_23, iz_7_24, ak_8, ak_9, ak_10, ak_11, ak_12, ak_13, ak_14, ak_15, ak_16, ak_17, ak_18, ak_19, ak_20, ak_21, ak_22, ak_23, ak_24, ak_25, ak_26, ak_27, ak_28, ak_29, ak_30, ak_31, ak_32, ak_33, ak_34, ak_35, ak_36, ak_37, ak_38, ak_39, ak_40, ak_41, ak_42, ak_43, ak_44, ak_45, ak_46, ak_47, ak_48, ak_49, ak_50, ak_51, ak_52, ak_53, ak_54, ak_55, ak_56, el31, el33, el34, CX1_tailOf, ca_X1_tailOf, frX1, kcX1, klX1, hasB_def, exists_eq_right_right, exists_eq_right, exists_eq_left, Nat.lt_irrefl, and_self, implies_true, forall_const]
        obtain ⟨⟨p1, p2, p3, p4, p5, p6, p7⟩, h⟩ := h
        refine ⟨p1, p1, ⟨by omega, by omega⟩, ⟨by omega, by omega⟩, fun a => TI_a a, fun a => ?_⟩
        obtain ⟨q1, q2⟩ := p6 (by omega)
        refine ⟨⟨by omega, by omega⟩, ⟨by omega, by omega⟩, ⟨by omega, by omega⟩, ⟨by omega, by omega⟩, q2, TI_b a q1⟩
    · exact h.elim
end
section
/-- letFirst, over the first j of the others -/
def LI (σ σ' : Mem) (n : Nat) (m ot jb j : Int) : Prop := (∀ t a x, (t ≠ 20 ∨ a ≠ n) → σ' t a x = σ t a x) ∧ (∀ x, (∀ k, 0 ≤ k → k < j → hasB ot k → σ 19 n (4 * m + k) ≠ x) → σ' 20 n x = σ 20 n x) ∧ (∀ k, 0 ≤ k → k < j → hasB ot k → 0 ≤ σ 19 n (4 * m + k) → σ' 20 n (σ 19 n (4 * m + k)) = bor (σ 20 n (σ 19 n (4 * m + k))) (bshl 1 jb))
theorem LI_0 {σ : Mem} {n : Nat} {m ot jb : Int} : LI σ σ n m ot jb 0 := ⟨fun _ _ _ _ => rfl, fun _ _ => rfl, fun k a b => by omega⟩
theorem LI_4 {σ σ' : Mem} {n : Nat} {m ot jb j : Int} (h : LI σ σ' n m ot jb j) (h0 : 4 ≤ j) (h1 : j ≤ 4) : LI σ σ' n m ot jb 4 := by
  have : j = 4 := by omega
  rw [← this]
  exact h
theorem LI_19 {σ σ' : Mem} {n : Nat} {m ot jb j : Int} (h : LI σ σ' n m ot jb j) (x : Int) : σ' 19 n x = σ 19 n x := h.1 19 n x (Or.inl (by decide))
theorem LI_n {σ σ' : Mem} {n : Nat} {m ot jb j : Int} (h : LI σ σ' n m ot jb j) (hn : σ' 19 n (4 * m + j) < 0) : LI σ σ' n m ot jb (j + 1) := by
  rw [LI_19 h] at hn
  refine ⟨h.1, fun x q => h.2.1 x (fun k a b => q k a (by omega)), fun k a b c d => ?_⟩
  rcases (show k < j ∨ k = j by omega) with q | rfl
  · exact h.2.2 k a q c d
  · omega
theorem LI_skip {σ σ' : Mem} {n : Nat} {m ot jb j : Int} (h : LI σ σ' n m ot jb j) (hb : ¬ hasB ot j) : LI σ σ' n m ot jb (j + 1) := by
  refine ⟨h.1, fun x q => h.2.1 x (fun k a b => q k a (by omega)), fun k a b c d => ?_⟩
  rcases (show k < j ∨ k = j by omega) with q | rfl
  · exact h.2.2 k a q c d
  · exact absurd c hb
theorem LI_put {σ σ' : Mem} {n : Nat} {m ot jb j : Int} (h : LI σ σ' n m ot jb j) (h0 : 0 ≤ j) (h1 : ¬ 4 ≤ j) (hb : hasB ot j) (hn : ¬ σ' 19 n (4 * m + j) < 0) (hinj : ∀ k k2, 0 ≤ k → k < 4 → 0 ≤ k2 → k2 < 4 → 0 ≤ σ 19 n (4 * m + k) → σ 19 n (4 * m + k) = σ 19 n (4 * m + k2) → k = k2) : LI σ (up σ' 20 n (σ' 19 n (4 * m + j)) (bor (σ' 20 n (σ' 19 n (4 * m + j))) (bshl 1 jb))) n m ot jb (j + 1) := by
  have e := LI_19 h (4 * m + j)
  rw [e] at hn ⊢
  obtain ⟨a1, a2, a3⟩ := h
  have hnew : ∀ k, 0 ≤ k → k < j → σ 19 n (4 * m + k) ≠ σ 19 n (4 * m + j) := by
    intro k p q r
    have := hinj j k h0 (by omega) p (by omega) (by omega) r.symm
    omega
  refine ⟨fun t a x q => ?_, fun x q => ?_, fun k a b c d => ?_⟩
  · unfold up
    rw [if_neg]
    · exact a1 t a x q
    · rintro ⟨rfl, rfl, -⟩
      rcases q with q | q <;> exact q rfl
  · unfold up
    rw [if_neg]
    · exact a2 x (fun k p r => q k p (by omega))
    · rintro ⟨-, -, r⟩
      exact q j h0 (by omega) hb r.symm
  · rcases (show k < j ∨ k = j by omega) with q | rfl
    · unfold up
      rw [if_neg]
      · exact a3 k a q c d
      · rintro ⟨-, -, r⟩
        exact hnew k a q r
    · unfold up
      rw [if_pos ⟨rfl, rfl, rfl⟩, a2 _ (fun k2 p r s => hnew k2 p r)]
def ca_X1_letFirst : Nat → Option (Nat × Nat × Tr) := fun _ => none
theorem cao_X1_letFirst (l : Launch) : ∀ k n' ci T', ca_X1_letFirst k = some (n', ci, T') → ∃ nn, nn + 1 ≤ 0 ∧ Site l yX1_letFirst.cls k n' ci nn T' := by
  intro k n' ci T' h
  cases h
def T_X1_letFirst : Tr := fun a σ K => match a with
  | [.inr (.inl (1, n)), .inl m, .inl jb, .inl ot] => (0 ≤ m ∧ m < 4 ∧ (∀ k, 0 ≤ k → k < 4 → σ 19 n (4 * m + k) < 16) ∧ (∀ k k2, 0 ≤ k → k < 4 → 0 ≤ k2 → k2 < 4 → 0 ≤ σ 19 n (4 * m + k) → σ 19 n (4 * m + k) = σ 19 n (4 * m + k2) → k = k2)) ∧ (∀ σ' : Mem, LI σ σ' n m ot jb 4 → K none σ')
  | _ => False
set_option maxHeartbeats 8000000 in
set_option maxRecDepth 20000 in
theorem k_X1_letFirst (l : Launch) : Ct l yX1_letFirst cX1_letFirst 6 none 0 T_X1_letFirst := by
  refine mk_met (by decide +kernel) hCX1_letFirst lCX1_letFirst frX1_ok cstX1_ok (cao_X1_letFirst l) ?_ ?_
  · intro a σ K h
    unfold T_X1_letFirst at h
    split at h
    · simp [eL]
    · exact h.elim
  · intro a σ K ha hR h
    unfold T_X1_letFirst at h
    split at h
    · rename_i n m jb ot
      refine ⟨fun pc => if pc = 3 then some (fun L S σ' k => match L, S with | [some (.inr (.inl c1)), some (.inl m'), some (.inl jb'), some (.inl ot'), some (.inl j), _], [] => (c1 = (1, n) ∧ m' = m ∧ jb' = jb ∧ ot' = ot ∧ 0 ≤ j ∧ j ≤ 4 ∧ LI σ σ' n m ot jb j) ∧ k = (4 - j).toNat | _, _ => False) else none, 200, ?_, ?_⟩
      · intro pc I L S σ' k hcut hi
        dsimp only at hcut
        split at hcut
        · rename_i hpc
          subst hpc
          cases hcut
          try dsimp only at hi
          split at hi
          · rename_i c1 m' jb' ot' j x1
            obtain ⟨hi, rfl⟩ := hi
            obtain ⟨rfl, rfl, rfl, rfl, h0, h1, h2⟩ := hi
            obtain ⟨⟨p1, p2, p3, p4⟩, h⟩ := h
            simp only [wp, stp, drp, entL, eL, lget, lset, okst, cnd, swt, rcv, Kr_int, Kr_bool, Kr_void, List.length_cons, List.length_nil, List.replicate, List.append_nil, List.cons_append, List.nil_append, List.take_succ_cons, List.take_zero, List.drop_succ_cons, List.drop_zero, List.reverse_cons, List.reverse_nil, Option.map_some, Option.map_none, Option.toList_some, Option.toList_none, Nat.reduceAdd, Nat.reduceSub, Nat.reduceLT, Nat.reduceLeDiff, Nat.reduceEqDiff, ↓reduceIte, Nat.add_zero, Nat.zero_add, true_and, and_true, Nat.le_refl, reduceCtorEq, false_implies, true_implies, not_true_eq_false, not_false_eq_true, Int.reduceAdd, Int.reduceSub, Int.reduceMul, Int.reduceLE, Int.reduceLT, Int.reduceEq, Int.reduceNe, Int.reduceNeg, Int.reduceDiv, Int.reduceMod, Bool.false_eq_true, Int.le_refl, and_self, true_or, or_true, inR_l, fv0, fv1, fv2, fv3, nc2, nc4, nc6, nc16, nc25, nc60, nc65, nc80, nc130, nc384, nc390, fp_0_0, fp_0_1, fp_0_2, fp_1_0, fp_1_1, fp_1_2, fp_1_3, fp_1_4, fp_1_5, fp_1_6, fp_1_7, fp_1_8, fp_1_9, fp_1_10, fp_1_11, fp_1_12, fp_1_13, fp_1_14, fp_2_0, fp_2_1, fp_2_2, fp_2_3, fp_3_0, fp_3_1, fp_4_0, fp_4_1, fp_4_2, fp_4_3, fp_4_4, fp_4_5, fp_4_6, fp_4_7, fp_5_0, fp_5_1, fp_5_2, fp_5_3, fp_5_4, fp_5_5, fp_5_6, fp_5_7, fp_6_0, fp_6_1, fp_6_2, fp_6_3, fp_6_4, fp_6_5, fp_6_6, fp_6_7, fp_6_8, fp_6_9, fp_6_10, fp_6_11, fp_6_12, fp_6_13, fp_6_14, fp_6_15, fp_7_0, fp_7_1, fp_7_2, fp_7_3, fp_7_4, fp_7_5, fp_7_6, fp_7_7, fp_7_8, fp_7_9, fp_7_10, fp_7_11, fp_7_12, fp_7_13, fp_7_14, fp_7_15, fp_7_16, fp_7_17, fp_7_18, fp_7_19, fp_7_20, fp_7_21, fp_7_22, fp_7_23, fp_7_24, iz_0_1, iz_0_2, iz_1_8, iz_1_9, iz_1_11, iz_2_1, iz_2_2, iz_2_3, iz_3_1, iz_4_1, iz_4_2, iz_5_0, iz_6_8, iz_6_9, iz_6_13, iz_6_14, iz_6_15, iz_7_2, iz_7_6, iz_7_12, iz_7_20, iz_7_21, iz_7_23, iz_7_24, ak_8, ak_9, ak_10, ak_11, ak_12, ak_13, ak_14, ak_15, ak_16, ak_17, ak_18, ak_19, ak_20, ak_21, ak_22, ak_23, ak_24, ak_25, ak_26, ak_27, ak_28, ak_29, ak_30, ak_31, ak_32, ak_33, ak_34, ak_35, ak_36, ak_37, ak_38, ak_39, ak_40, ak_41, ak_42, ak_43, ak_44, ak_45, ak_46, ak_47, ak_48, ak_49, ak_50, ak_51, ak_52, ak_53, ak_54, ak_55, ak_56, el31, el33, el34, CX1_letFirst, ca_X1_letFirst, frX1, kcX1, klX1, hasB_def, exists_eq_right_right, exists_eq_right, exists_eq_left, Nat.lt_irrefl, and_self, implies_true, forall_const]
            refine ⟨fun b => h _ (LI_4 h2 b h1), fun b => ?_⟩
            have q1 := p3 j h0 (by omega)
            have q2 := LI_19 h2 (4 * m' + j)
            refine ⟨⟨by omega, by omega⟩, ⟨by omega, by omega⟩, ⟨by omega, by omega⟩, fun d => ⟨⟨by omega, by omega⟩, by omega, by omega, by omega, LI_n h2 d⟩, fun d => ⟨fun c => ⟨⟨by omega, by omega⟩, by omega, by omega, by omega, LI_skip h2 c⟩, fun c => ⟨⟨by omega, by omega⟩, ⟨by omega, by omega⟩, ⟨by omega, by omega⟩, by omega, by omega, by omega, LI_put h2 h0 b (Classical.not_not.mp c) d p4⟩⟩⟩
          · exact hi.elim
        · cases hcut
      · simp only [wp, stp, drp, entL, eL, lget, lset, okst, cnd, swt, rcv, Kr_int, Kr_bool, Kr_void, List.length_cons, List.length_nil, List.replicate, List.append_nil, List.cons_append, List.nil_append, List.take_succ_cons, List.take_zero, List.drop_succ_cons, List.drop_zero, List.reverse_cons, List.reverse_nil, Option.map_some, Option.map_none, Option.toList_some, Option.toList_none, Nat.reduceAdd, Nat.reduceSub, Nat.reduceLT, Nat.reduceLeDiff, Nat.reduceEqDiff, ↓reduceIte, Nat.add_zero, Nat.zero_add, true_and, and_true, Nat.le_refl, reduceCtorEq, false_implies, true_implies, not_true_eq_false, not_false_eq_true, Int.reduceAdd, Int.reduceSub, Int.reduceMul, Int.reduceLE, Int.reduceLT, Int.reduceEq, Int.reduceNe, Int.reduceNeg, Int.reduceDiv, Int.reduceMod, Bool.false_eq_true, Int.le_refl, and_self, true_or, or_true, inR_l, fv0, fv1, fv2, fv3, nc2, nc4, nc6, nc16, nc25, nc60, nc65, nc80, nc130, nc384, nc390, fp_0_0, fp_0_1, fp_0_2, fp_1_0, fp_1_1, fp_1_2, fp_1_3, fp_1_4, fp_1_5, fp_1_6, fp_1_7, fp_1_8, fp_1_9, fp_1_10, fp_1_11, fp_1_12, fp_1_13, fp_1_14, fp_2_0, fp_2_1, fp_2_2, fp_2_3, fp_3_0, fp_3_1, fp_4_0, fp_4_1, fp_4_2, fp_4_3, fp_4_4, fp_4_5, fp_4_6, fp_4_7, fp_5_0, fp_5_1, fp_5_2, fp_5_3, fp_5_4, fp_5_5, fp_5_6, fp_5_7, fp_6_0, fp_6_1, fp_6_2, fp_6_3, fp_6_4, fp_6_5, fp_6_6, fp_6_7, fp_6_8, fp_6_9, fp_6_10, fp_6_11, fp_6_12, fp_6_13, fp_6_14, fp_6_15, fp_7_0, fp_7_1, fp_7_2, fp_7_3, fp_7_4, fp_7_5, fp_7_6, fp_7_7, fp_7_8, fp_7_9, fp_7_10, fp_7_11, fp_7_12, fp_7_13, fp_7_14, fp_7_15, fp_7_16, fp_7_17, fp_7_18, fp_7_19, fp_7_20, fp_7_21, fp_7_22, fp_7_23, fp_7_24, iz_0_1, iz_0_2, iz_1_8, iz_1_9, iz_1_11, iz_2_1, iz_2_2, iz_2_3, iz_3_1, iz_4_1, iz_4_2, iz_5_0, iz_6_8, iz_6_9, iz_6_13, iz_6_14, iz_6_15, iz_7_2, iz_7_6, iz_7_12, iz_7_20, iz_7_21, iz_7_23, iz_7_24, ak_8, ak_9, ak_10, ak_11, ak_12, ak_13, ak_14, ak_15, ak_16, ak_17, ak_18, ak_19, ak_20, ak_21, ak_22, ak_23, ak_24, ak_25, ak_26, ak_27, ak_28, ak_29, ak_30, ak_31, ak_32, ak_33, ak_34, ak_35, ak_36, ak_37, ak_38, ak_39, ak_40, ak_41, ak_42, ak_43, ak_44, ak_45, ak_46, ak_47, ak_48, ak_49, ak_50, ak_51, ak_52, ak_53, ak_54, ak_55, ak_56, el31, el33, el34, CX1_letFirst, ca_X1_letFirst, frX1, kcX1, klX1, hasB_def, exists_eq_right_right, exists_eq_right, exists_eq_left, Nat.lt_irrefl, and_self, implies_true, forall_const]
        exact LI_0
    · exact h.elim
end
section
def ca_X7_operationAt : Nat → Option (Nat × Nat × Tr)
  | 77 => some (3, 7, T_X7_jobAt)
  | 80 => some (3, 7, T_X7_operationOn)
  | _ => none
theorem cao_X7_operationAt (l : Launch) : ∀ k n' ci T', ca_X7_operationAt k = some (n', ci, T') → ∃ nn, nn + 1 ≤ 2 ∧ Site l yX7_operationAt.cls k n' ci nn T' := by
  intro k n' ci T' h
  unfold ca_X7_operationAt at h
  split at h
  · cases h; exact ⟨0, by decide, _, _, _, _, k_X7_jobAt l, Or.inl ⟨_, rfl, FX7_jobAt, KRX7_77⟩⟩
  · cases h; exact ⟨1, by decide, _, _, _, _, k_X7_operationOn l, Or.inl ⟨_, rfl, FX7_operationOn, KRX7_80⟩⟩
  · cases h
def T_X7_operationAt : Tr := fun a σ K => match a with
  | [.inr (.inl (7, 0)), .inl m, .inl x] => (0 ≤ m ∧ m < 4 ∧ σ 38 0 (45 + m) ≤ 4 ∧ (0 ≤ x → x < σ 38 0 (45 + m) → 0 ≤ σ 38 0 (49 + 4 * m + x) ∧ σ 38 0 (49 + 4 * m + x) < 4 ∧ σ 38 0 (1 + 3 * (σ 38 0 (49 + 4 * m + x)) + 2) ≤ 4)) ∧ K (some (if 0 ≤ x ∧ x < σ 38 0 (45 + m) then opF (fun k => σ 38 0 (13 + 2 * k)) (σ 38 0 (1 + 3 * (σ 38 0 (49 + 4 * m + x)) + 2)) (σ 38 0 (49 + 4 * m + x)) m else -6)) σ
  | _ => False
set_option maxHeartbeats 4000000 in
set_option maxRecDepth 20000 in
theorem k_X7_operationAt (l : Launch) : Ct l yX7_operationAt cX7_operationAt 3 (some .int) 2 T_X7_operationAt := by
  refine mk_met (by decide +kernel) hCX7_operationAt lCX7_operationAt frX7_ok cstX7_ok (cao_X7_operationAt l) ?_ ?_
  · intro a σ K h
    unfold T_X7_operationAt at h
    split at h
    · simp [eL]
    · exact h.elim
  · intro a σ K ha hR h
    unfold T_X7_operationAt at h
    split at h
    · rename_i m x
      refine ⟨fun _ => none, 200, fun pc I L S σ' k h => (by cases h), ?_⟩
      simp only [wp, stp, drp, entL, eL, lget, lset, okst, cnd, swt, rcv, Kr_int, Kr_bool, Kr_void, List.length_cons, List.length_nil, List.replicate, List.append_nil, List.cons_append, List.nil_append, List.take_succ_cons, List.take_zero, List.drop_succ_cons, List.drop_zero, List.reverse_cons, List.reverse_nil, Option.map_some, Option.map_none, Option.toList_some, Option.toList_none, Nat.reduceAdd, Nat.reduceSub, Nat.reduceLT, Nat.reduceLeDiff, Nat.reduceEqDiff, ↓reduceIte, Nat.add_zero, Nat.zero_add, true_and, and_true, Nat.le_refl, reduceCtorEq, false_implies, true_implies, not_true_eq_false, not_false_eq_true, Int.reduceAdd, Int.reduceSub, Int.reduceMul, Int.reduceLE, Int.reduceLT, Int.reduceEq, Int.reduceNe, Int.reduceNeg, Int.reduceDiv, Int.reduceMod, Bool.false_eq_true, Int.le_refl, and_self, true_or, or_true, inR_l, fv0, fv1, fv2, fv3, nc2, nc4, nc6, nc16, nc25, nc60, nc65, nc80, nc130, nc384, nc390, fp_0_0, fp_0_1, fp_0_2, fp_1_0, fp_1_1, fp_1_2, fp_1_3, fp_1_4, fp_1_5, fp_1_6, fp_1_7, fp_1_8, fp_1_9, fp_1_10, fp_1_11, fp_1_12, fp_1_13, fp_1_14, fp_2_0, fp_2_1, fp_2_2, fp_2_3, fp_3_0, fp_3_1, fp_4_0, fp_4_1, fp_4_2, fp_4_3, fp_4_4, fp_4_5, fp_4_6, fp_4_7, fp_5_0, fp_5_1, fp_5_2, fp_5_3, fp_5_4, fp_5_5, fp_5_6, fp_5_7, fp_6_0, fp_6_1, fp_6_2, fp_6_3, fp_6_4, fp_6_5, fp_6_6, fp_6_7, fp_6_8, fp_6_9, fp_6_10, fp_6_11, fp_6_12, fp_6_13, fp_6_14, fp_6_15, fp_7_0, fp_7_1, fp_7_2, fp_7_3, fp_7_4, fp_7_5, fp_7_6, fp_7_7, fp_7_8, fp_7_9, fp_7_10, fp_7_11, fp_7_12, fp_7_13, fp_7_14, fp_7_15, fp_7_16, fp_7_17, fp_7_18, fp_7_19, fp_7_20, fp_7_21, fp_7_22, fp_7_23, fp_7_24, iz_0_1, iz_0_2, iz_1_8, iz_1_9, iz_1_11, iz_2_1, iz_2_2, iz_2_3, iz_3_1, iz_4_1, iz_4_2, iz_5_0, iz_6_8, iz_6_9, iz_6_13, iz_6_14, iz_6_15, iz_7_2, iz_7_6, iz_7_12, iz_7_20, iz_7_21, iz_7_23, iz_7_24, ak_8, ak_9, ak_10, ak_11, ak_12, ak_13, ak_14, ak_15, ak_16, ak_17, ak_18, ak_19, ak_20, ak_21, ak_22, ak_23, ak_24, ak_25, ak_26, ak_27, ak_28, ak_29, ak_30, ak_31, ak_32, ak_33, ak_34, ak_35, ak_36, ak_37, ak_38, ak_39, ak_40, ak_41, ak_42, ak_43, ak_44, ak_45, ak_46, ak_47, ak_48, ak_49, ak_50, ak_51, ak_52, ak_53, ak_54, ak_55, ak_56, el31, el33, el34, CX7_operationAt, ca_X7_operationAt, frX7, kcX7, klX7, T_X7_jobAt, T_X7_operationOn]
      grind (splits := 60) [inR, up]
    · exact h.elim
def ca_X7_next : Nat → Option (Nat × Nat × Tr) := fun _ => none
theorem cao_X7_next (l : Launch) : ∀ k n' ci T', ca_X7_next k = some (n', ci, T') → ∃ nn, nn + 1 ≤ 0 ∧ Site l yX7_next.cls k n' ci nn T' := by
  intro k n' ci T' h
  cases h
def T_X7_next : Tr := fun a σ K => match a with
  | [.inr (.inl (7, 0))] => (0 ≤ σ 7 0 20 ∧ σ 7 0 6 ≤ 80) ∧ K (some (if σ 7 0 20 < σ 7 0 6 then σ 42 0 (σ 7 0 20) else 0)) σ
  | _ => False
set_option maxHeartbeats 4000000 in
set_option maxRecDepth 20000 in
theorem k_X7_next (l : Launch) : Ct l yX7_next cX7_next 1 (some .int) 0 T_X7_next := by
  refine mk_met (by decide +kernel) hCX7_next lCX7_next frX7_ok cstX7_ok (cao_X7_next l) ?_ ?_
  · intro a σ K h
    unfold T_X7_next at h
    split at h
    · simp [eL]
    · exact h.elim
  · intro a σ K ha hR h
    unfold T_X7_next at h
    split at h
    · refine ⟨fun _ => none, 200, fun pc I L S σ' k h => (by cases h), ?_⟩
      simp only [wp, stp, drp, entL, eL, lget, lset, okst, cnd, swt, rcv, Kr_int, Kr_bool, Kr_void, List.length_cons, List.length_nil, List.replicate, List.append_nil, List.cons_append, List.nil_append, List.take_succ_cons, List.take_zero, List.drop_succ_cons, List.drop_zero, List.reverse_cons, List.reverse_nil, Option.map_some, Option.map_none, Option.toList_some, Option.toList_none, Nat.reduceAdd, Nat.reduceSub, Nat.reduceLT, Nat.reduceLeDiff, Nat.reduceEqDiff, ↓reduceIte, Nat.add_zero, Nat.zero_add, true_and, and_true, Nat.le_refl, reduceCtorEq, false_implies, true_implies, not_true_eq_false, not_false_eq_true, Int.reduceAdd, Int.reduceSub, Int.reduceMul, Int.reduceLE, Int.reduceLT, Int.reduceEq, Int.reduceNe, Int.reduceNeg, Int.reduceDiv, Int.reduceMod, Bool.false_eq_true, Int.le_refl, and_self, true_or, or_true, inR_l, fv0, fv1, fv2, fv3, nc2, nc4, nc6, nc16, nc25, nc60, nc65, nc80, nc130, nc384, nc390, fp_0_0, fp_0_1, fp_0_2, fp_1_0, fp_1_1, fp_1_2, fp_1_3, fp_1_4, fp_1_5, fp_1_6, fp_1_7, fp_1_8, fp_1_9, fp_1_10, fp_1_11, fp_1_12, fp_1_13, fp_1_14, fp_2_0, fp_2_1, fp_2_2, fp_2_3, fp_3_0, fp_3_1, fp_4_0, fp_4_1, fp_4_2, fp_4_3, fp_4_4, fp_4_5, fp_4_6, fp_4_7, fp_5_0, fp_5_1, fp_5_2, fp_5_3, fp_5_4, fp_5_5, fp_5_6, fp_5_7, fp_6_0, fp_6_1, fp_6_2, fp_6_3, fp_6_4, fp_6_5, fp_6_6, fp_6_7, fp_6_8, fp_6_9, fp_6_10, fp_6_11, fp_6_12, fp_6_13, fp_6_14, fp_6_15, fp_7_0, fp_7_1, fp_7_2, fp_7_3, fp_7_4, fp_7_5, fp_7_6, fp_7_7, fp_7_8, fp_7_9, fp_7_10, fp_7_11, fp_7_12, fp_7_13, fp_7_14, fp_7_15, fp_7_16, fp_7_17, fp_7_18, fp_7_19, fp_7_20, fp_7_21, fp_7_22, fp_7_23, fp_7_24, iz_0_1, iz_0_2, iz_1_8, iz_1_9, iz_1_11, iz_2_1, iz_2_2, iz_2_3, iz_3_1, iz_4_1, iz_4_2, iz_5_0, iz_6_8, iz_6_9, iz_6_13, iz_6_14, iz_6_15, iz_7_2, iz_7_6, iz_7_12, iz_7_20, iz_7_21, iz_7_23, iz_7_24, ak_8, ak_9, ak_10, ak_11, ak_12, ak_13, ak_14, ak_15, ak_16, ak_17, ak_18, ak_19, ak_20, ak_21, ak_22, ak_23, ak_24, ak_25, ak_26, ak_27, ak_28, ak_29, ak_30, ak_31, ak_32, ak_33, ak_34, ak_35, ak_36, ak_37, ak_38, ak_39, ak_40, ak_41, ak_42, ak_43, ak_44, ak_45, ak_46, ak_47, ak_48, ak_49, ak_50, ak_51, ak_52, ak_53, ak_54, ak_55, ak_56, el31, el33, el34, CX7_next, ca_X7_next, frX7, kcX7, klX7]
      grind (splits := 60) [inR, up]
    · exact h.elim
def ca_X7_wipe : Nat → Option (Nat × Nat × Tr) := fun _ => none
theorem cao_X7_wipe (l : Launch) : ∀ k n' ci T', ca_X7_wipe k = some (n', ci, T') → ∃ nn, nn + 1 ≤ 0 ∧ Site l yX7_wipe.cls k n' ci nn T' := by
  intro k n' ci T' h
  cases h
def T_X7_wipe : Tr := fun a σ K => match a with
  | [.inr (.inl (7, 0))] => K (some (σ 7 0 6)) (up σ 7 0 6 0)
  | _ => False
set_option maxHeartbeats 4000000 in
set_option maxRecDepth 20000 in
theorem k_X7_wipe (l : Launch) : Ct l yX7_wipe cX7_wipe 2 (some .int) 0 T_X7_wipe := by
  refine mk_met (by decide +kernel) hCX7_wipe lCX7_wipe frX7_ok cstX7_ok (cao_X7_wipe l) ?_ ?_
  · intro a σ K h
    unfold T_X7_wipe at h
    split at h
    · simp [eL]
    · exact h.elim
  · intro a σ K ha hR h
    unfold T_X7_wipe at h
    split at h
    · refine ⟨fun _ => none, 200, fun pc I L S σ' k h => (by cases h), ?_⟩
      simp only [wp, stp, drp, entL, eL, lget, lset, okst, cnd, swt, rcv, Kr_int, Kr_bool, Kr_void, List.length_cons, List.length_nil, List.replicate, List.append_nil, List.cons_append, List.nil_append, List.take_succ_cons, List.take_zero, List.drop_succ_cons, List.drop_zero, List.reverse_cons, List.reverse_nil, Option.map_some, Option.map_none, Option.toList_some, Option.toList_none, Nat.reduceAdd, Nat.reduceSub, Nat.reduceLT, Nat.reduceLeDiff, Nat.reduceEqDiff, ↓reduceIte, Nat.add_zero, Nat.zero_add, true_and, and_true, Nat.le_refl, reduceCtorEq, false_implies, true_implies, not_true_eq_false, not_false_eq_true, Int.reduceAdd, Int.reduceSub, Int.reduceMul, Int.reduceLE, Int.reduceLT, Int.reduceEq, Int.reduceNe, Int.reduceNeg, Int.reduceDiv, Int.reduceMod, Bool.false_eq_true, Int.le_refl, and_self, true_or, or_true, inR_l, fv0, fv1, fv2, fv3, nc2, nc4, nc6, nc16, nc25, nc60, nc65, nc80, nc130, nc384, nc390, fp_0_0, fp_0_1, fp_0_2, fp_1_0, fp_1_1, fp_1_2, fp_1_3, fp_1_4, fp_1_5, fp_1_6, fp_1_7, fp_1_8, fp_1_9, fp_1_10, fp_1_11, fp_1_12, fp_1_13, fp_1_14, fp_2_0, fp_2_1, fp_2_2, fp_2_3, fp_3_0, fp_3_1, fp_4_0, fp_4_1, fp_4_2, fp_4_3, fp_4_4, fp_4_5, fp_4_6, fp_4_7, fp_5_0, fp_5_1, fp_5_2, fp_5_3, fp_5_4, fp_5_5, fp_5_6, fp_5_7, fp_6_0, fp_6_1, fp_6_2, fp_6_3, fp_6_4, fp_6_5, fp_6_6, fp_6_7, fp_6_8, fp_6_9, fp_6_10, fp_6_11, fp_6_12, fp_6_13, fp_6_14, fp_6_15, fp_7_0, fp_7_1, fp_7_2, fp_7_3, fp_7_4, fp_7_5, fp_7_6, fp_7_7, fp_7_8, fp_7_9, fp_7_10, fp_7_11, fp_7_12, fp_7_13, fp_7_14, fp_7_15, fp_7_16, fp_7_17, fp_7_18, fp_7_19, fp_7_20, fp_7_21, fp_7_22, fp_7_23, fp_7_24, iz_0_1, iz_0_2, iz_1_8, iz_1_9, iz_1_11, iz_2_1, iz_2_2, iz_2_3, iz_3_1, iz_4_1, iz_4_2, iz_5_0, iz_6_8, iz_6_9, iz_6_13, iz_6_14, iz_6_15, iz_7_2, iz_7_6, iz_7_12, iz_7_20, iz_7_21, iz_7_23, iz_7_24, ak_8, ak_9, ak_10, ak_11, ak_12, ak_13, ak_14, ak_15, ak_16, ak_17, ak_18, ak_19, ak_20, ak_21, ak_22, ak_23, ak_24, ak_25, ak_26, ak_27, ak_28, ak_29, ak_30, ak_31, ak_32, ak_33, ak_34, ak_35, ak_36, ak_37, ak_38, ak_39, ak_40, ak_41, ak_42, ak_43, ak_44, ak_45, ak_46, ak_47, ak_48, ak_49, ak_50, ak_51, ak_52, ak_53, ak_54, ak_55, ak_56, el31, el33, el34, CX7_wipe, ca_X7_wipe, frX7, kcX7, klX7]
      grind (splits := 60) [inR, up]
    · exact h.elim
def ca_X7_foundAt : Nat → Option (Nat × Nat × Tr) := fun _ => none
theorem cao_X7_foundAt (l : Launch) : ∀ k n' ci T', ca_X7_foundAt k = some (n', ci, T') → ∃ nn, nn + 1 ≤ 0 ∧ Site l yX7_foundAt.cls k n' ci nn T' := by
  intro k n' ci T' h
  cases h
def T_X7_foundAt : Tr := fun a σ K => match a with
  | [.inr (.inl (7, 0)), .inl m, .inl x] => (0 ≤ m ∧ m < 4 ∧ σ 38 0 (45 + m) ≤ 4) ∧ K (some (if 0 ≤ x ∧ x < σ 38 0 (45 + m) then σ 51 0 (4 * m + x) else -6)) σ
  | _ => False
set_option maxHeartbeats 4000000 in
set_option maxRecDepth 20000 in
theorem k_X7_foundAt (l : Launch) : Ct l yX7_foundAt cX7_foundAt 3 (some .int) 0 T_X7_foundAt := by
  refine mk_met (by decide +kernel) hCX7_foundAt lCX7_foundAt frX7_ok cstX7_ok (cao_X7_foundAt l) ?_ ?_
  · intro a σ K h
    unfold T_X7_foundAt at h
    split at h
    · simp [eL]
    · exact h.elim
  · intro a σ K ha hR h
    unfold T_X7_foundAt at h
    split at h
    · rename_i m x
      refine ⟨fun _ => none, 200, fun pc I L S σ' k h => (by cases h), ?_⟩
      simp only [wp, stp, drp, entL, eL, lget, lset, okst, cnd, swt, rcv, Kr_int, Kr_bool, Kr_void, List.length_cons, List.length_nil, List.replicate, List.append_nil, List.cons_append, List.nil_append, List.take_succ_cons, List.take_zero, List.drop_succ_cons, List.drop_zero, List.reverse_cons, List.reverse_nil, Option.map_some, Option.map_none, Option.toList_some, Option.toList_none, Nat.reduceAdd, Nat.reduceSub, Nat.reduceLT, Nat.reduceLeDiff, Nat.reduceEqDiff, ↓reduceIte, Nat.add_zero, Nat.zero_add, true_and, and_true, Nat.le_refl, reduceCtorEq, false_implies, true_implies, not_true_eq_false, not_false_eq_true, Int.reduceAdd, Int.reduceSub, Int.reduceMul, Int.reduceLE, Int.reduceLT, Int.reduceEq, Int.reduceNe, Int.reduceNeg, Int.reduceDiv, Int.reduceMod, Bool.false_eq_true, Int.le_refl, and_self, true_or, or_true, inR_l, fv0, fv1, fv2, fv3, nc2, nc4, nc6, nc16, nc25, nc60, nc65, nc80, nc130, nc384, nc390, fp_0_0, fp_0_1, fp_0_2, fp_1_0, fp_1_1, fp_1_2, fp_1_3, fp_1_4, fp_1_5, fp_1_6, fp_1_7, fp_1_8, fp_1_9, fp_1_10, fp_1_11, fp_1_12, fp_1_13, fp_1_14, fp_2_0, fp_2_1, fp_2_2, fp_2_3, fp_3_0, fp_3_1, fp_4_0, fp_4_1, fp_4_2, fp_4_3, fp_4_4, fp_4_5, fp_4_6, fp_4_7, fp_5_0, fp_5_1, fp_5_2, fp_5_3, fp_5_4, fp_5_5, fp_5_6, fp_5_7, fp_6_0, fp_6_1, fp_6_2, fp_6_3, fp_6_4, fp_6_5, fp_6_6, fp_6_7, fp_6_8, fp_6_9, fp_6_10, fp_6_11, fp_6_12, fp_6_13, fp_6_14, fp_6_15, fp_7_0, fp_7_1, fp_7_2, fp_7_3, fp_7_4, fp_7_5, fp_7_6, fp_7_7, fp_7_8, fp_7_9, fp_7_10, fp_7_11, fp_7_12, fp_7_13, fp_7_14, fp_7_15, fp_7_16, fp_7_17, fp_7_18, fp_7_19, fp_7_20, fp_7_21, fp_7_22, fp_7_23, fp_7_24, iz_0_1, iz_0_2, iz_1_8, iz_1_9, iz_1_11, iz_2_1, iz_2_2, iz_2_3, iz_3_1, iz_4_1, iz_4_2, iz_5_0, iz_6_8, iz_6_9, iz_6_13, iz_6_14, iz_6_15, iz_7_2, iz_7_6, iz_7_12, iz_7_20, iz_7_21, iz_7_23, iz_7_24, ak_8, ak_9, ak_10, ak_11, ak_12, ak_13, ak_14, ak_15, ak_16, ak_17, ak_18, ak_19, ak_20, ak_21, ak_22, ak_23, ak_24, ak_25, ak_26, ak_27, ak_28, ak_29, ak_30, ak_31, ak_32, ak_33, ak_34, ak_35, ak_36, ak_37, ak_38, ak_39, ak_40, ak_41, ak_42, ak_43, ak_44, ak_45, ak_46, ak_47, ak_48, ak_49, ak_50, ak_51, ak_52, ak_53, ak_54, ak_55, ak_56, el31, el33, el34, CX7_foundAt, ca_X7_foundAt, frX7, kcX7, klX7]
      grind (splits := 60) [inR, up]
    · exact h.elim
def ca_X7_need : Nat → Option (Nat × Nat × Tr)
  | 269 => some (1, 7, T_X7_next)
  | _ => none
theorem cao_X7_need (l : Launch) : ∀ k n' ci T', ca_X7_need k = some (n', ci, T') → ∃ nn, nn + 1 ≤ 1 ∧ Site l yX7_need.cls k n' ci nn T' := by
  intro k n' ci T' h
  unfold ca_X7_need at h
  split at h
  · cases h; exact ⟨0, by decide, _, _, _, _, k_X7_next l, Or.inl ⟨_, rfl, FX7_next, KRX7_269⟩⟩
  · cases h
def T_X7_need : Tr := fun a σ K => match a with
  | [.inr (.inl (7, 0)), .inl c] => (0 ≤ σ 7 0 20 ∧ σ 7 0 20 ≤ 80 ∧ σ 7 0 6 ≤ 80 ∧ (σ 7 0 21 = 0 ∨ σ 7 0 21 = 1)) ∧ K none (if σ 7 0 21 = 0 ∧ (if σ 7 0 20 < σ 7 0 6 then σ 42 0 (σ 7 0 20) else 0) = c then up (up σ 7 0 21 0) 7 0 20 (σ 7 0 20 + 1) else up (up σ 7 0 21 1) 7 0 20 (σ 7 0 20 + 0))
  | _ => False
set_option maxHeartbeats 4000000 in
set_option maxRecDepth 20000 in
theorem k_X7_need (l : Launch) : Ct l yX7_need cX7_need 2 none 1 T_X7_need := by
  refine mk_met (by decide +kernel) hCX7_need lCX7_need frX7_ok cstX7_ok (cao_X7_need l) ?_ ?_
  · intro a σ K h
    unfold T_X7_need at h
    split at h
    · simp [eL]
    · exact h.elim
  · intro a σ K ha hR h
    unfold T_X7_need at h
    split at h
    · rename_i c
      refine ⟨fun _ => none, 200, fun pc I L S σ' k h => (by cases h), ?_⟩
      simp only [wp, stp, drp, entL, eL, lget, lset, okst, cnd, swt, rcv, Kr_int, Kr_bool, Kr_void, List.length_cons, List.length_nil, List.replicate, List.append_nil, List.cons_append, List.nil_append, List.take_succ_cons, List.take_zero, List.drop_succ_cons, List.drop_zero, List.reverse_cons, List.reverse_nil, Option.map_some, Option.map_none, Option.toList_some, Option.toList_none, Nat.reduceAdd, Nat.reduceSub, Nat.reduceLT, Nat.reduceLeDiff, Nat.reduceEqDiff, ↓reduceIte, Nat.add_zero, Nat.zero_add, true_and, and_true, Nat.le_refl, reduceCtorEq, false_implies, true_implies, not_true_eq_false, not_false_eq_true, Int.reduceAdd, Int.reduceSub, Int.reduceMul, Int.reduceLE, Int.reduceLT, Int.reduceEq, Int.reduceNe, Int.reduceNeg, Int.reduceDiv, Int.reduceMod, Bool.false_eq_true, Int.le_refl, and_self, true_or, or_true, inR_l, fv0, fv1, fv2, fv3, nc2, nc4, nc6, nc16, nc25, nc60, nc65, nc80, nc130, nc384, nc390, fp_0_0, fp_0_1, fp_0_2, fp_1_0, fp_1_1, fp_1_2, fp_1_3, fp_1_4, fp_1_5, fp_1_6, fp_1_7, fp_1_8, fp_1_9, fp_1_10, fp_1_11, fp_1_12, fp_1_13, fp_1_14, fp_2_0, fp_2_1, fp_2_2, fp_2_3, fp_3_0, fp_3_1, fp_4_0, fp_4_1, fp_4_2, fp_4_3, fp_4_4, fp_4_5, fp_4_6, fp_4_7, fp_5_0, fp_5_1, fp_5_2, fp_5_3, fp_5_4, fp_5_5, fp_5_6, fp_5_7, fp_6_0, fp_6_1, fp_6_2, fp_6_3, fp_6_4, fp_6_5, fp_6_6, fp_6_7, fp_6_8, fp_6_9, fp_6_10, fp_6_11, fp_6_12, fp_6_13, fp_6_14, fp_6_15, fp_7_0, fp_7_1, fp_7_2, fp_7_3, fp_7_4, fp_7_5, fp_7_6, fp_7_7, fp_7_8, fp_7_9, fp_7_10, fp_7_11, fp_7_12, fp_7_13, fp_7_14, fp_7_15, fp_7_16, fp_7_17, fp_7_18, fp_7_19, fp_7_20, fp_7_21, fp_7_22, fp_7_23, fp_7_24, iz_0_1, iz_0_2, iz_1_8, iz_1_9, iz_1_11, iz_2_1, iz_2_2, iz_2_3, iz_3_1, iz_4_1, iz_4_2, iz_5_0, iz_6_8, iz_6_9, iz_6_13, iz_6_14, iz_6_15, iz_7_2, iz_7_6, iz_7_12, iz_7_20, iz_7_21, iz_7_23, iz_7_24, ak_8, ak_9, ak_10, ak_11, ak_12, ak_13, ak_14, ak_15, ak_16, ak_17, ak_18, ak_19, ak_20, ak_21, ak_22, ak_23, ak_24, ak_25, ak_26, ak_27, ak_28, ak_29, ak_30, ak_31, ak_32, ak_33, ak_34, ak_35, ak_36, ak_37, ak_38, ak_39, ak_40, ak_41, ak_42, ak_43, ak_44, ak_45, ak_46, ak_47, ak_48, ak_49, ak_50, ak_51, ak_52, ak_53, ak_54, ak_55, ak_56, el31, el33, el34, CX7_need, ca_X7_need, frX7, kcX7, klX7, T_X7_next]
      grind (splits := 60) [inR, up]
    · exact h.elim
end
section
def gt2 (x y : Int) : Int := if y < x then x else y
/-- the end of an operation as the reference has it; none: 0 -/
def eE (σ : Mem) (x : Int) : Int := if x < 0 then 0 else σ 45 0 x + σ 38 0 (14 + 2 * x)
def rhV (σ : Mem) (o b : Int) : Int := gt2 (gt2 (σ 38 0 (1 + 3 * (o / 4))) (σ 43 0 o)) (gt2 (eE σ (if o % 4 = 0 then -6 else o - 1)) (eE σ b))
def ca_X7_raiseHead : Nat → Option (Nat × Nat × Tr)
  | 69 => some (3, 7, T_X7_ofAJob)
  | 108 => some (2, 99, T_X7_greater)
  | 111 => some (2, 7, T_X7_beforeOnRoute)
  | 114 => some (2, 7, T_X7_endOf)
  | _ => none
theorem cao_X7_raiseHead (l : Launch) : ∀ k n' ci T', ca_X7_raiseHead k = some (n', ci, T') → ∃ nn, nn + 1 ≤ 2 ∧ Site l yX7_raiseHead.cls k n' ci nn T' := by
  intro k n' ci T' h
  unfold ca_X7_raiseHead at h
  split at h
  · cases h; exact ⟨0, by decide, _, _, _, _, k_X7_ofAJob l, Or.inl ⟨_, rfl, FX7_ofAJob, KRX7_69⟩⟩
  · cases h; exact ⟨0, by decide, _, _, _, _, k_X7_greater l, Or.inr ⟨rfl, FX7_greater, Or.inl ⟨rfl, KRX7_108⟩⟩⟩
  · cases h; exact ⟨0, by decide, _, _, _, _, k_X7_beforeOnRoute l, Or.inl ⟨_, rfl, FX7_beforeOnRoute, KRX7_111⟩⟩
  · cases h; exact ⟨1, by decide, _, _, _, _, k_X7_endOf l, Or.inl ⟨_, rfl, FX7_endOf, KRX7_114⟩⟩
  · cases h
def T_X7_raiseHead : Tr := fun a σ K => match a with
  | [.inr (.inl (7, 0)), .inl o, .inl b] => (0 ≤ o ∧ o < 16 ∧ b < 16 ∧ (o % 4 ≠ 0 → inR (σ 45 0 (o - 1) + σ 38 0 (14 + 2 * (o - 1)))) ∧ (0 ≤ b → inR (σ 45 0 b + σ 38 0 (14 + 2 * b)))) ∧ K (some (if σ 44 0 o ≠ 0 ∨ rhV σ o b ≤ σ 45 0 o then 0 else 1)) (if σ 44 0 o ≠ 0 ∨ rhV σ o b ≤ σ 45 0 o then σ else up σ 45 0 o (rhV σ o b))
  | _ => False
set_option maxHeartbeats 4000000 in
set_option maxRecDepth 20000 in
theorem k_X7_raiseHead (l : Launch) : Ct l yX7_raiseHead cX7_raiseHead 4 (some .boolean) 2 T_X7_raiseHead := by
  refine mk_met (by decide +kernel) hCX7_raiseHead lCX7_raiseHead frX7_ok cstX7_ok (cao_X7_raiseHead l) ?_ ?_
  · intro a σ K h
    unfold T_X7_raiseHead at h
    split at h
    · simp [eL]
    · exact h.elim
  · intro a σ K ha hR h
    unfold T_X7_raiseHead at h
    split at h
    · rename_i o b
      refine ⟨fun _ => none, 200, fun pc I L S σ' k h => (by cases h), ?_⟩
      simp only [wp, stp, drp, entL, eL, lget, lset, okst, cnd, swt, rcv, Kr_int, Kr_bool, Kr_void, List.length_cons, List.length_nil, List.replicate, List.append_nil, List.cons_append, List.nil_append, List.take_succ_cons, List.take_zero, List.drop_succ_cons, List.drop_zero, List.reverse_cons, List.reverse_nil, Option.map_some, Option.map_none, Option.toList_some, Option.toList_none, Nat.reduceAdd, Nat.reduceSub, Nat.reduceLT, Nat.reduceLeDiff, Nat.reduceEqDiff, ↓reduceIte, Nat.add_zero, Nat.zero_add, true_and, and_true, Nat.le_refl, reduceCtorEq, false_implies, true_implies, not_true_eq_false, not_false_eq_true, Int.reduceAdd, Int.reduceSub, Int.reduceMul, Int.reduceLE, Int.reduceLT, Int.reduceEq, Int.reduceNe, Int.reduceNeg, Int.reduceDiv, Int.reduceMod, Bool.false_eq_true, Int.le_refl, and_self, true_or, or_true, inR_l, fv0, fv1, fv2, fv3, nc2, nc4, nc6, nc16, nc25, nc60, nc65, nc80, nc130, nc384, nc390, fp_0_0, fp_0_1, fp_0_2, fp_1_0, fp_1_1, fp_1_2, fp_1_3, fp_1_4, fp_1_5, fp_1_6, fp_1_7, fp_1_8, fp_1_9, fp_1_10, fp_1_11, fp_1_12, fp_1_13, fp_1_14, fp_2_0, fp_2_1, fp_2_2, fp_2_3, fp_3_0, fp_3_1, fp_4_0, fp_4_1, fp_4_2, fp_4_3, fp_4_4, fp_4_5, fp_4_6, fp_4_7, fp_5_0, fp_5_1, fp_5_2, fp_5_3, fp_5_4, fp_5_5, fp_5_6, fp_5_7, fp_6_0, fp_6_1, fp_6_2, fp_6_3, fp_6_4, fp_6_5, fp_6_6, fp_6_7, fp_6_8, fp_6_9, fp_6_10, fp_6_11, fp_6_12, fp_6_13, fp_6_14, fp_6_15, fp_7_0, fp_7_1, fp_7_2, fp_7_3, fp_7_4, fp_7_5, fp_7_6, fp_7_7, fp_7_8, fp_7_9, fp_7_10, fp_7_11, fp_7_12, fp_7_13, fp_7_14, fp_7_15, fp_7_16, fp_7_17, fp_7_18, fp_7_19, fp_7_20, fp_7_21, fp_7_22, fp_7_23, fp_7_24, iz_0_1, iz_0_2, iz_1_8, iz_1_9, iz_1_11, iz_2_1, iz_2_2, iz_2_3, iz_3_1, iz_4_1, iz_4_2, iz_5_0, iz_6_8, iz_6_9, iz_6_13, iz_6_14, iz_6_15, iz_7_2, iz_7_6, iz_7_12, iz_7_20, iz_7_21, iz_7_23, iz_7_24, ak_8, ak_9, ak_10, ak_11, ak_12, ak_13, ak_14, ak_15, ak_16, ak_17, ak_18, ak_19, ak_20, ak_21, ak_22, ak_23, ak_24, ak_25, ak_26, ak_27, ak_28, ak_29, ak_30, ak_31, ak_32, ak_33, ak_34, ak_35, ak_36, ak_37, ak_38, ak_39, ak_40, ak_41, ak_42, ak_43, ak_44, ak_45, ak_46, ak_47, ak_48, ak_49, ak_50, ak_51, ak_52, ak_53, ak_54, ak_55, ak_56, el31, el33, el34, CX7_raiseHead, ca_X7_raiseHead, frX7, kcX7, klX7, T_X7_ofAJob, T_X7_greater, T_X7_beforeOnRoute, T_X7_endOf]
      unfold rhV gt2 eE at h
      grind (splits := 60) [inR, up]
    · exact h.elim
end
section
/-- the next head behind a time, over the first j jobs of a machine -/
def NI (σ : Mem) (n : Nat) (m tm r j : Int) : Prop := r ≤ 1000 ∧ (∀ k, 0 ≤ k → k < j → 0 ≤ σ 19 n (4 * m + k) → tm < σ 21 n (σ 19 n (4 * m + k)) → r ≤ σ 21 n (σ 19 n (4 * m + k))) ∧ (r = 1000 ∨ ∃ k, 0 ≤ k ∧ k < 4 ∧ 0 ≤ σ 19 n (4 * m + k) ∧ tm < σ 21 n (σ 19 n (4 * m + k)) ∧ r = σ 21 n (σ 19 n (4 * m + k)))
theorem NI_0 {σ : Mem} {n : Nat} {m tm : Int} : NI σ n m tm 1000 0 := ⟨Int.le_refl _, fun k a b => by omega, Or.inl rfl⟩
theorem NI_4 {σ : Mem} {n : Nat} {m tm r j : Int} (h : NI σ n m tm r j) (h0 : 4 ≤ j) : NI σ n m tm r 4 := ⟨h.1, fun k a b => h.2.1 k a (by omega), h.2.2⟩
theorem NI_k {σ : Mem} {n : Nat} {m tm r j : Int} (h : NI σ n m tm r j) (hq : 0 ≤ σ 19 n (4 * m + j) → tm < σ 21 n (σ 19 n (4 * m + j)) → r ≤ σ 21 n (σ 19 n (4 * m + j))) : NI σ n m tm r (j + 1) := ⟨h.1, fun k a b c d => by
  rcases (show k < j ∨ k = j by omega) with q | rfl
  · exact h.2.1 k a q c d
  · exact hq c d, h.2.2⟩
theorem NI_t {σ : Mem} {n : Nat} {m tm r j : Int} (h : NI σ n m tm r j) (h0 : 0 ≤ j) (h1 : ¬ 4 ≤ j) (h2 : ¬ σ 19 n (4 * m + j) < 0) (h3 : ¬ σ 21 n (σ 19 n (4 * m + j)) ≤ tm) (h4 : ¬ r ≤ σ 21 n (σ 19 n (4 * m + j))) : NI σ n m tm (σ 21 n (σ 19 n (4 * m + j))) (j + 1) := by
  obtain ⟨a1, a2, a3⟩ := h
  refine ⟨by omega, fun k a b c d => ?_, Or.inr ⟨j, h0, by omega, by omega, by omega, rfl⟩⟩
  rcases (show k < j ∨ k = j by omega) with q | rfl
  · have := a2 k a q c d
    omega
  · exact Int.le_refl _
def ca_X1_nextHead : Nat → Option (Nat × Nat × Tr) := fun _ => none
theorem cao_X1_nextHead (l : Launch) : ∀ k n' ci T', ca_X1_nextHead k = some (n', ci, T') → ∃ nn, nn + 1 ≤ 0 ∧ Site l yX1_nextHead.cls k n' ci nn T' := by
  intro k n' ci T' h
  cases h
def T_X1_nextHead : Tr := fun a σ K => match a with
  | [.inr (.inl (1, n)), .inl m, .inl tm] => (0 ≤ m ∧ m < 4 ∧ (∀ k, 0 ≤ k → k < 4 → σ 19 n (4 * m + k) < 16)) ∧ ∀ r, NI σ n m tm r 4 → K (some r) σ
  | _ => False
set_option maxHeartbeats 8000000 in
set_option maxRecDepth 20000 in
theorem k_X1_nextHead (l : Launch) : Ct l yX1_nextHead cX1_nextHead 6 (some .int) 0 T_X1_nextHead := by
  refine mk_met (by decide +kernel) hCX1_nextHead lCX1_nextHead frX1_ok cstX1_ok (cao_X1_nextHead l) ?_ ?_
  · intro a σ K h
    unfold T_X1_nextHead at h
    split at h
    · simp [eL]
    · exact h.elim
  · intro a σ K ha hR h
    unfold T_X1_nextHead at h
    split at h
    · rename_i n m tm
      refine ⟨fun pc => if pc = 7 then some (fun L S σ' k => match L, S with | [some (.inr (.inl c1)), some (.inl m'), some (.inl tm'), some (.inl r), some (.inl j), _], [] => (c1 = (1, n) ∧ m' = m ∧ tm' = tm ∧ σ' = σ ∧ 0 ≤ j ∧ j ≤ 4 ∧ NI σ n m tm r j) ∧ k = (4 - j).toNat | _, _ => False) else none, 200, ?_, ?_⟩
      · intro pc I L S σ' k hcut hi
        dsimp only at hcut
        split at hcut
        · rename_i hpc
          subst hpc
          cases hcut
          try dsimp only at hi
          split at hi
          · rename_i c1 m' tm' r j x1
            obtain ⟨hi, rfl⟩ := hi
            obtain ⟨rfl, rfl, rfl, rfl, h0, h1, h2⟩ := hi
            obtain ⟨⟨p1, p2, p3⟩, h⟩ := h
            simp only [wp, stp, drp, entL, eL, lget, lset, okst, cnd, swt, rcv, Kr_int, Kr_bool, Kr_void, List.length_cons, List.length_nil, List.replicate, List.append_nil, List.cons_append, List.nil_append, List.take_succ_cons, List.take_zero, List.drop_succ_cons, List.drop_zero, List.reverse_cons, List.reverse_nil, Option.map_some, Option.map_none, Option.toList_some, Option.toList_none, Nat.reduceAdd, Nat.reduceSub, Nat.reduceLT, Nat.reduceLeDiff, Nat.reduceEqDiff, ↓reduceIte, Nat.add_zero, Nat.zero_add, true_and, and_true, Nat.le_refl, reduceCtorEq, false_implies, true_implies, not_true_eq_false, not_false_eq_true, Int.reduceAdd, Int.reduceSub, Int.reduceMul, Int.reduceLE, Int.reduceLT, Int.reduceEq, Int.reduceNe, Int.reduceNeg, Int.reduceDiv, Int.reduceMod, Bool.false_eq_true, Int.le_refl, and_self, true_or, or_true, inR_l, fv0, fv1, fv2, fv3, nc2, nc4, nc6, nc16, nc25, nc60, nc65, nc80, nc130, nc384, nc390, fp_0_0, fp_0_1, fp_0_2, fp_1_0, fp_1_1, fp_1_2, fp_1_3, fp_1_4, fp_1_5, fp_1_6, fp_1_7, fp_1_8, fp_1_9, fp_1_10, fp_1_11, fp_1_12, fp_1_13, fp_1_14, fp_2_0, fp_2_1, fp_2_2, fp_2_3, fp_3_0, fp_3_1, fp_4_0, fp_4_1, fp_4_2, fp_4_3, fp_4_4, fp_4_5, fp_4_6, fp_4_7, fp_5_0, fp_5_1, fp_5_2, fp_5_3, fp_5_4, fp_5_5, fp_5_6, fp_5_7, fp_6_0, fp_6_1, fp_6_2, fp_6_3, fp_6_4, fp_6_5, fp_6_6, fp_6_7, fp_6_8, fp_6_9, fp_6_10, fp_6_11, fp_6_12, fp_6_13, fp_6_14, fp_6_15, fp_7_0, fp_7_1, fp_7_2, fp_7_3, fp_7_4, fp_7_5, fp_7_6, fp_7_7, fp_7_8, fp_7_9, fp_7_10, fp_7_11, fp_7_12, fp_7_13, fp_7_14, fp_7_15, fp_7_16, fp_7_17, fp_7_18, fp_7_19, fp_7_20, fp_7_21, fp_7_22, fp_7_23, fp_7_24, iz_0_1, iz_0_2, iz_1_8, iz_1_9, iz_1_11, iz_2_1, iz_2_2, iz_2_3, iz_3_1, iz_4_1, iz_4_2, iz_5_0, iz_6_8, iz_6_9, iz_6_13, iz_6_14, iz_6_15, iz_7_2, iz_7_6, iz_7_12, iz_7_20, iz_7_21, iz_7_23, iz_7_24, ak_8, ak_9, ak_10, ak_11, ak_12, ak_13, ak_14, ak_15, ak_16, ak_17, ak_18, ak_19, ak_20, ak_21, ak_22, ak_23, ak_24, ak_25, ak_26, ak_27, ak_28, ak_29, ak_30, ak_31, ak_32, ak_33, ak_34, ak_35, ak_36, ak_37, ak_38, ak_39, ak_40, ak_41, ak_42, ak_43, ak_44, ak_45, ak_46, ak_47, ak_48, ak_49, ak_50, ak_51, ak_52, ak_53, ak_54, ak_55, ak_56, el31, el33, el34, CX1_nextHead, ca_X1_nextHead, frX1, kcX1, klX1, exists_eq_right_right, exists_eq_right, exists_eq_left, Nat.lt_irrefl, and_self, implies_true, forall_const]
            refine ⟨fun b => h _ (NI_4 h2 b), fun b => ?_⟩
            have q1 := p3 j h0 (by omega)
            refine ⟨⟨by omega, by omega⟩, ⟨by omega, by omega⟩, ⟨by omega, by omega⟩, fun d => ⟨⟨by omega, by omega⟩, by omega, by omega, by omega, NI_k h2 (fun x _ => by omega)⟩, fun d => ⟨⟨by omega, q1⟩, fun c => ⟨⟨by omega, by omega⟩, by omega, by omega, by omega, NI_k h2 (fun _ x => by omega)⟩, fun c => ⟨⟨by omega, q1⟩, fun e => ⟨⟨by omega, by omega⟩, by omega, by omega, by omega, NI_k h2 (fun _ _ => e)⟩, fun e => ⟨⟨by omega, q1⟩, ⟨by omega, by omega⟩, by omega, by omega, by omega, NI_t h2 h0 b d c e⟩⟩⟩⟩
          · exact hi.elim
        · cases hcut
      · simp only [wp, stp, drp, entL, eL, lget, lset, okst, cnd, swt, rcv, Kr_int, Kr_bool, Kr_void, List.length_cons, List.length_nil, List.replicate, List.append_nil, List.cons_append, List.nil_append, List.take_succ_cons, List.take_zero, List.drop_succ_cons, List.drop_zero, List.reverse_cons, List.reverse_nil, Option.map_some, Option.map_none, Option.toList_some, Option.toList_none, Nat.reduceAdd, Nat.reduceSub, Nat.reduceLT, Nat.reduceLeDiff, Nat.reduceEqDiff, ↓reduceIte, Nat.add_zero, Nat.zero_add, true_and, and_true, Nat.le_refl, reduceCtorEq, false_implies, true_implies, not_true_eq_false, not_false_eq_true, Int.reduceAdd, Int.reduceSub, Int.reduceMul, Int.reduceLE, Int.reduceLT, Int.reduceEq, Int.reduceNe, Int.reduceNeg, Int.reduceDiv, Int.reduceMod, Bool.false_eq_true, Int.le_refl, and_self, true_or, or_true, inR_l, fv0, fv1, fv2, fv3, nc2, nc4, nc6, nc16, nc25, nc60, nc65, nc80, nc130, nc384, nc390, fp_0_0, fp_0_1, fp_0_2, fp_1_0, fp_1_1, fp_1_2, fp_1_3, fp_1_4, fp_1_5, fp_1_6, fp_1_7, fp_1_8, fp_1_9, fp_1_10, fp_1_11, fp_1_12, fp_1_13, fp_1_14, fp_2_0, fp_2_1, fp_2_2, fp_2_3, fp_3_0, fp_3_1, fp_4_0, fp_4_1, fp_4_2, fp_4_3, fp_4_4, fp_4_5, fp_4_6, fp_4_7, fp_5_0, fp_5_1, fp_5_2, fp_5_3, fp_5_4, fp_5_5, fp_5_6, fp_5_7, fp_6_0, fp_6_1, fp_6_2, fp_6_3, fp_6_4, fp_6_5, fp_6_6, fp_6_7, fp_6_8, fp_6_9, fp_6_10, fp_6_11, fp_6_12, fp_6_13, fp_6_14, fp_6_15, fp_7_0, fp_7_1, fp_7_2, fp_7_3, fp_7_4, fp_7_5, fp_7_6, fp_7_7, fp_7_8, fp_7_9, fp_7_10, fp_7_11, fp_7_12, fp_7_13, fp_7_14, fp_7_15, fp_7_16, fp_7_17, fp_7_18, fp_7_19, fp_7_20, fp_7_21, fp_7_22, fp_7_23, fp_7_24, iz_0_1, iz_0_2, iz_1_8, iz_1_9, iz_1_11, iz_2_1, iz_2_2, iz_2_3, iz_3_1, iz_4_1, iz_4_2, iz_5_0, iz_6_8, iz_6_9, iz_6_13, iz_6_14, iz_6_15, iz_7_2, iz_7_6, iz_7_12, iz_7_20, iz_7_21, iz_7_23, iz_7_24, ak_8, ak_9, ak_10, ak_11, ak_12, ak_13, ak_14, ak_15, ak_16, ak_17, ak_18, ak_19, ak_20, ak_21, ak_22, ak_23, ak_24, ak_25, ak_26, ak_27, ak_28, ak_29, ak_30, ak_31, ak_32, ak_33, ak_34, ak_35, ak_36, ak_37, ak_38, ak_39, ak_40, ak_41, ak_42, ak_43, ak_44, ak_45, ak_46, ak_47, ak_48, ak_49, ak_50, ak_51, ak_52, ak_53, ak_54, ak_55, ak_56, el31, el33, el34, CX1_nextHead, ca_X1_nextHead, frX1, kcX1, klX1, exists_eq_right_right, exists_eq_right, exists_eq_left, Nat.lt_irrefl, and_self, implies_true, forall_const]
        exact NI_0
    · exact h.elim
end
section
def ca_X5_allSteps : Nat → Option (Nat × Nat × Tr) := fun _ => none
theorem cao_X5_allSteps (l : Launch) : ∀ k n' ci T', ca_X5_allSteps k = some (n', ci, T') → ∃ nn, nn + 1 ≤ 0 ∧ Site l yX5_allSteps.cls k n' ci nn T' := by
  intro k n' ci T' h
  cases h
def T_X5_allSteps : Tr := fun a σ K => match a with
  | [.inr (.inl (5, i))] => (0 ≤ σ 5 i 0 ∧ σ 5 i 0 ≤ 4 ∧ (∀ j, 0 ≤ j → j < 4 → 0 ≤ σ 10 i j ∧ σ 10 i j ≤ 4)) ∧ K (some (wF (σ 10 i) 0 (σ 5 i 0))) σ
  | _ => False
set_option maxHeartbeats 8000000 in
set_option maxRecDepth 20000 in
theorem k_X5_allSteps (l : Launch) : Ct l yX5_allSteps cX5_allSteps 3 (some .int) 0 T_X5_allSteps := by
  refine mk_met (by decide +kernel) hCX5_allSteps lCX5_allSteps frX5_ok cstX5_ok (cao_X5_allSteps l) ?_ ?_
  · intro a σ K h
    unfold T_X5_allSteps at h
    split at h
    · simp [eL]
    · exact h.elim
  · intro a σ K ha hR h
    unfold T_X5_allSteps at h
    split at h
    · rename_i i
      refine ⟨fun pc => if pc = 4 then some (fun L S σ' k => match L, S with | [some (.inr (.inl c1)), some (.inl sm), some (.inl st)], [] => (c1 = (5, i) ∧ 0 ≤ st ∧ st ≤ σ 5 i 0 ∧ sm = wF (σ 10 i) 0 st ∧ 0 ≤ sm ∧ sm ≤ 4 * st ∧ σ' = σ) ∧ k = (4 - st).toNat | _, _ => False) else none, 200, ?_, ?_⟩
      · intro pc I L S σ' k hcut hi
        dsimp only at hcut
        split at hcut
        · rename_i hpc
          subst hpc
          cases hcut
          try dsimp only at hi
          split at hi
          · rename_i c1 sm st
            obtain ⟨hi, rfl⟩ := hi
            obtain ⟨rfl, h0, h1, h2, h3, h4, rfl⟩ := hi
            simp only [wp, stp, drp, entL, eL, lget, lset, okst, cnd, swt, rcv, Kr_int, Kr_bool, Kr_void, List.length_cons, List.length_nil, List.replicate, List.append_nil, List.cons_append, List.nil_append, List.take_succ_cons, List.take_zero, List.drop_succ_cons, List.drop_zero, List.reverse_cons, List.reverse_nil, Option.map_some, Option.map_none, Option.toList_some, Option.toList_none, Nat.reduceAdd, Nat.reduceSub, Nat.reduceLT, Nat.reduceLeDiff, Nat.reduceEqDiff, ↓reduceIte, Nat.add_zero, Nat.zero_add, true_and, and_true, Nat.le_refl, reduceCtorEq, false_implies, true_implies, not_true_eq_false, not_false_eq_true, Int.reduceAdd, Int.reduceSub, Int.reduceMul, Int.reduceLE, Int.reduceLT, Int.reduceEq, Int.reduceNe, Int.reduceNeg, Int.reduceDiv, Int.reduceMod, Bool.false_eq_true, Int.le_refl, and_self, true_or, or_true, inR_l, fv0, fv1, fv2, fv3, nc2, nc4, nc6, nc16, nc25, nc60, nc65, nc80, nc130, nc384, nc390, fp_0_0, fp_0_1, fp_0_2, fp_1_0, fp_1_1, fp_1_2, fp_1_3, fp_1_4, fp_1_5, fp_1_6, fp_1_7, fp_1_8, fp_1_9, fp_1_10, fp_1_11, fp_1_12, fp_1_13, fp_1_14, fp_2_0, fp_2_1, fp_2_2, fp_2_3, fp_3_0, fp_3_1, fp_4_0, fp_4_1, fp_4_2, fp_4_3, fp_4_4, fp_4_5, fp_4_6, fp_4_7, fp_5_0, fp_5_1, fp_5_2, fp_5_3, fp_5_4, fp_5_5, fp_5_6, fp_5_7, fp_6_0, fp_6_1, fp_6_2, fp_6_3, fp_6_4, fp_6_5, fp_6_6, fp_6_7, fp_6_8, fp_6_9, fp_6_10, fp_6_11, fp_6_12, fp_6_13, fp_6_14, fp_6_15, fp_7_0, fp_7_1, fp_7_2, fp_7_3, fp_7_4, fp_7_5, fp_7_6, fp_7_7, fp_7_8, fp_7_9, fp_7_10, fp_7_11, fp_7_12, fp_7_13, fp_7_14, fp_7_15, fp_7_16, fp_7_17, fp_7_18, fp_7_19, fp_7_20, fp_7_21, fp_7_22, fp_7_23, fp_7_24, iz_0_1, iz_0_2, iz_1_8, iz_1_9, iz_1_11, iz_2_1, iz_2_2, iz_2_3, iz_3_1, iz_4_1, iz_4_2, iz_5_0, iz_6_8, iz_6_9, iz_6_13, iz_6_14, iz_6_15, iz_7_2, iz_7_6, iz_7_12, iz_7_20, iz_7_21, iz_7_23, iz_7_24, ak_8, ak_9, ak_10, ak_11, ak_12, ak_13, ak_14, ak_15, ak_16, ak_17, ak_18, ak_19, ak_20, ak_21, ak_22, ak_23, ak_24, ak_25, ak_26, ak_27, ak_28, ak_29, ak_30, ak_31, ak_32, ak_33, ak_34, ak_35, ak_36, ak_37, ak_38, ak_39, ak_40, ak_41, ak_42, ak_43, ak_44, ak_45, ak_46, ak_47, ak_48, ak_49, ak_50, ak_51, ak_52, ak_53, ak_54, ak_55, ak_56, el31, el33, el34, CX5_allSteps, ca_X5_allSteps, frX5, kcX5, klX5, exists_eq_right_right, exists_eq_right, exists_eq_left, Nat.lt_irrefl, and_self, implies_true, forall_const]
            grind (splits := 60) [inR, wF_s, wF_0]
          · exact hi.elim
        · cases hcut
      · simp only [wp, stp, drp, entL, eL, lget, lset, okst, cnd, swt, rcv, Kr_int, Kr_bool, Kr_void, List.length_cons, List.length_nil, List.replicate, List.append_nil, List.cons_append, List.nil_append, List.take_succ_cons, List.take_zero, List.drop_succ_cons, List.drop_zero, List.reverse_cons, List.reverse_nil, Option.map_some, Option.map_none, Option.toList_some, Option.toList_none, Nat.reduceAdd, Nat.reduceSub, Nat.reduceLT, Nat.reduceLeDiff, Nat.reduceEqDiff, ↓reduceIte, Nat.add_zero, Nat.zero_add, true_and, and_true, Nat.le_refl, reduceCtorEq, false_implies, true_implies, not_true_eq_false, not_false_eq_true, Int.reduceAdd, Int.reduceSub, Int.reduceMul, Int.reduceLE, Int.reduceLT, Int.reduceEq, Int.reduceNe, Int.reduceNeg, Int.reduceDiv, Int.reduceMod, Bool.false_eq_true, Int.le_refl, and_self, true_or, or_true, inR_l, fv0, fv1, fv2, fv3, nc2, nc4, nc6, nc16, nc25, nc60, nc65, nc80, nc130, nc384, nc390, fp_0_0, fp_0_1, fp_0_2, fp_1_0, fp_1_1, fp_1_2, fp_1_3, fp_1_4, fp_1_5, fp_1_6, fp_1_7, fp_1_8, fp_1_9, fp_1_10, fp_1_11, fp_1_12, fp_1_13, fp_1_14, fp_2_0, fp_2_1, fp_2_2, fp_2_3, fp_3_0, fp_3_1, fp_4_0, fp_4_1, fp_4_2, fp_4_3, fp_4_4, fp_4_5, fp_4_6, fp_4_7, fp_5_0, fp_5_1, fp_5_2, fp_5_3, fp_5_4, fp_5_5, fp_5_6, fp_5_7, fp_6_0, fp_6_1, fp_6_2, fp_6_3, fp_6_4, fp_6_5, fp_6_6, fp_6_7, fp_6_8, fp_6_9, fp_6_10, fp_6_11, fp_6_12, fp_6_13, fp_6_14, fp_6_15, fp_7_0, fp_7_1, fp_7_2, fp_7_3, fp_7_4, fp_7_5, fp_7_6, fp_7_7, fp_7_8, fp_7_9, fp_7_10, fp_7_11, fp_7_12, fp_7_13, fp_7_14, fp_7_15, fp_7_16, fp_7_17, fp_7_18, fp_7_19, fp_7_20, fp_7_21, fp_7_22, fp_7_23, fp_7_24, iz_0_1, iz_0_2, iz_1_8, iz_1_9, iz_1_11, iz_2_1, iz_2_2, iz_2_3, iz_3_1, iz_4_1, iz_4_2, iz_5_0, iz_6_8, iz_6_9, iz_6_13, iz_6_14, iz_6_15, iz_7_2, iz_7_6, iz_7_12, iz_7_20, iz_7_21, iz_7_23, iz_7_24, ak_8, ak_9, ak_10, ak_11, ak_12, ak_13, ak_14, ak_15, ak_16, ak_17, ak_18, ak_19, ak_20, ak_21, ak_22, ak_23, ak_24, ak_25, ak_26, ak_27, ak_28, ak_29, ak_30, ak_31, ak_32, ak_33, ak_34, ak_35, ak_36, ak_37, ak_38, ak_39, ak_40, ak_41, ak_42, ak_43, ak_44, ak_45, ak_46, ak_47, ak_48, ak_49, ak_50, ak_51, ak_52, ak_53, ak_54, ak_55, ak_56, el31, el33, el34, CX5_allSteps, ca_X5_allSteps, frX5, kcX5, klX5, exists_eq_right_right, exists_eq_right, exists_eq_left, Nat.lt_irrefl, and_self, implies_true, forall_const]
        grind (splits := 60) [inR, wF_s, wF_0]
    · exact h.elim
def ca_X5_allWork : Nat → Option (Nat × Nat × Tr)
  | 60 => some (2, 5, T_X5_work)
  | _ => none
theorem cao_X5_allWork (l : Launch) : ∀ k n' ci T', ca_X5_allWork k = some (n', ci, T') → ∃ nn, nn + 1 ≤ 1 ∧ Site l yX5_allWork.cls k n' ci nn T' := by
  intro k n' ci T' h
  unfold ca_X5_allWork at h
  split at h
  · cases h; exact ⟨0, by decide, _, _, _, _, k_X5_work l, Or.inl ⟨_, rfl, FX5_work, KRX5_60⟩⟩
  · cases h
def T_X5_allWork : Tr := fun a σ K => match a with
  | [.inr (.inl (5, i))] => (0 ≤ σ 5 i 0 ∧ σ 5 i 0 ≤ 4 ∧ (∀ j, 0 ≤ j → j < σ 5 i 0 → 0 ≤ σ 10 i j ∧ σ 10 i j ≤ 4 ∧ 0 ≤ wF (σ 12 i) (4 * j) (σ 10 i j) ∧ wF (σ 12 i) (4 * j) (σ 10 i j) ≤ 4000) ∧ (∀ j x, 0 ≤ j → j < σ 5 i 0 → 0 ≤ x → x < σ 10 i j → 0 ≤ σ 12 i (4 * j + x) ∧ σ 12 i (4 * j + x) ≤ 1000)) ∧ K (some (wF (fun j => wF (σ 12 i) (4 * j) (σ 10 i j)) 0 (σ 5 i 0))) σ
  | _ => False
set_option maxHeartbeats 8000000 in
set_option maxRecDepth 20000 in
theorem k_X5_allWork (l : Launch) : Ct l yX5_allWork cX5_allWork 3 (some .int) 1 T_X5_allWork := by
  refine mk_met (by decide +kernel) hCX5_allWork lCX5_allWork frX5_ok cstX5_ok (cao_X5_allWork l) ?_ ?_
  · intro a σ K h
    unfold T_X5_allWork at h
    split at h
    · simp [eL]
    · exact h.elim
  · intro a σ K ha hR h
    unfold T_X5_allWork at h
    split at h
    · rename_i i
      refine ⟨fun pc => if pc = 4 then some (fun L S σ' k => match L, S with | [some (.inr (.inl c1)), some (.inl sm), some (.inl st)], [] => (c1 = (5, i) ∧ 0 ≤ st ∧ st ≤ σ 5 i 0 ∧ sm = wF (fun j => wF (σ 12 i) (4 * j) (σ 10 i j)) 0 st ∧ 0 ≤ sm ∧ sm ≤ 4000 * st ∧ σ' = σ) ∧ k = (4 - st).toNat | _, _ => False) else none, 200, ?_, ?_⟩
      · intro pc I L S σ' k hcut hi
        dsimp only at hcut
        split at hcut
        · rename_i hpc
          subst hpc
          cases hcut
          try dsimp only at hi
          split at hi
          · rename_i c1 sm st
            obtain ⟨hi, rfl⟩ := hi
            obtain ⟨rfl, h0, h1, h2, h3, h4, rfl⟩ := hi
            have e := wF_s (fun j => wF (σ' 12 i) (4 * j) (σ' 10 i j)) 0 st h0
            simp only [Int.zero_add] at e
            simp only [wp, stp, drp, entL, eL, lget, lset, okst, cnd, swt, rcv, Kr_int, Kr_bool, Kr_void, List.length_cons, List.length_nil, List.replicate, List.append_nil, List.cons_append, List.nil_append, List.take_succ_cons, List.take_zero, List.drop_succ_cons, List.drop_zero, List.reverse_cons, List.reverse_nil, Option.map_some, Option.map_none, Option.toList_some, Option.toList_none, Nat.reduceAdd, Nat.reduceSub, Nat.reduceLT, Nat.reduceLeDiff, Nat.reduceEqDiff, ↓reduceIte, Nat.add_zero, Nat.zero_add, true_and, and_true, Nat.le_refl, reduceCtorEq, false_implies, true_implies, not_true_eq_false, not_false_eq_true, Int.reduceAdd, Int.reduceSub, Int.reduceMul, Int.reduceLE, Int.reduceLT, Int.reduceEq, Int.reduceNe, Int.reduceNeg, Int.reduceDiv, Int.reduceMod, Bool.false_eq_true, Int.le_refl, and_self, true_or, or_true, inR_l, fv0, fv1, fv2, fv3, nc2, nc4, nc6, nc16, nc25, nc60, nc65, nc80, nc130, nc384, nc390, fp_0_0, fp_0_1, fp_0_2, fp_1_0, fp_1_1, fp_1_2, fp_1_3, fp_1_4, fp_1_5, fp_1_6, fp_1_7, fp_1_8, fp_1_9, fp_1_10, fp_1_11, fp_1_12, fp_1_13, fp_1_14, fp_2_0, fp_2_1, fp_2_2, fp_2_3, fp_3_0, fp_3_1, fp_4_0, fp_4_1, fp_4_2, fp_4_3, fp_4_4, fp_4_5, fp_4_6, fp_4_7, fp_5_0, fp_5_1, fp_5_2, fp_5_3, fp_5_4, fp_5_5, fp_5_6, fp_5_7, fp_6_0, fp_6_1, fp_6_2, fp_6_3, fp_6_4, fp_6_5, fp_6_6, fp_6_7, fp_6_8, fp_6_9, fp_6_10, fp_6_11, fp_6_12, fp_6_13, fp_6_14, fp_6_15, fp_7_0, fp_7_1, fp_7_2, fp_7_3, fp_7_4, fp_7_5, fp_7_6, fp_7_7, fp_7_8, fp_7_9, fp_7_10, fp_7_11, fp_7_12, fp_7_13, fp_7_14, fp_7_15, fp_7_16, fp_7_17, fp_7_18, fp_7_19, fp_7_20, fp_7_21, fp_7_22, fp_7_23, fp_7_24, iz_0_1, iz_0_2, iz_1_8, iz_1_9, iz_1_11, iz_2_1, iz_2_2, iz_2_3, iz_3_1, iz_4_1, iz_4_2, iz_5_0, iz_6_8, iz_6_9, iz_6_13, iz_6_14, iz_6_15, iz_7_2, iz_7_6, iz_7_12, iz_7_20, iz_7_21, iz_7_23, iz_7_24, ak_8, ak_9, ak_10, ak_11, ak_12, ak_13, ak_14, ak_15, ak_16, ak_17, ak_18, ak_19, ak_20, ak_21, ak_22, ak_23, ak_24, ak_25, ak_26, ak_27, ak_28, ak_29, ak_30, ak_31, ak_32, ak_33, ak_34, ak_35, ak_36, ak_37, ak_38, ak_39, ak_40, ak_41, ak_42, ak_43, ak_44, ak_45, ak_46, ak_47, ak_48, ak_49, ak_50, ak_51, ak_52, ak_53, ak_54, ak_55, ak_56, el31, el33, el34, CX5_allWork, ca_X5_allWork, frX5, kcX5, klX5, T_X5_work, exists_eq_right_right, exists_eq_right, exists_eq_left, Nat.lt_irrefl, and_self, implies_true, forall_const]
            obtain ⟨⟨p0, p1, p2, p3⟩, h⟩ := h
            refine ⟨fun a => ?_, fun a => ?_⟩
            · have e2 : st = σ' 5 i 0 := by omega
              rw [h2, e2]
              exact h
            · obtain ⟨q1, q2, q3, q4⟩ := p2 st h0 (by omega)
              refine ⟨⟨h0, by omega, q1, q2, fun x a b => p3 st x h0 (by omega) a b⟩, ⟨by omega, by omega⟩, ⟨by omega, by omega⟩, by omega, by omega, by omega, ?_, by omega, by omega⟩
              rw [h2, e (by omega)]
          · exact hi.elim
        · cases hcut
      · simp only [wp, stp, drp, entL, eL, lget, lset, okst, cnd, swt, rcv, Kr_int, Kr_bool, Kr_void, List.length_cons, List.length_nil, List.replicate, List.append_nil, List.cons_append, List.nil_append, List.take_succ_cons, List.take_zero, List.drop_succ_cons, List.drop_zero, List.reverse_cons, List.reverse_nil, Option.map_some, Option.map_none, Option.toList_some, Option.toList_none, Nat.reduceAdd, Nat.reduceSub, Nat.reduceLT, Nat.reduceLeDiff, Nat.reduceEqDiff, ↓reduceIte, Nat.add_zero, Nat.zero_add, true_and, and_true, Nat.le_refl, reduceCtorEq, false_implies, true_implies, not_true_eq_false, not_false_eq_true, Int.reduceAdd, Int.reduceSub, Int.reduceMul, Int.reduceLE, Int.reduceLT, Int.reduceEq, Int.reduceNe, Int.reduceNeg, Int.reduceDiv, Int.reduceMod, Bool.false_eq_true, Int.le_refl, and_self, true_or, or_true, inR_l, fv0, fv1, fv2, fv3, nc2, nc4, nc6, nc16, nc25, nc60, nc65, nc80, nc130, nc384, nc390, fp_0_0, fp_0_1, fp_0_2, fp_1_0, fp_1_1, fp_1_2, fp_1_3, fp_1_4, fp_1_5, fp_1_6, fp_1_7, fp_1_8, fp_1_9, fp_1_10, fp_1_11, fp_1_12, fp_1_13, fp_1_14, fp_2_0, fp_2_1, fp_2_2, fp_2_3, fp_3_0, fp_3_1, fp_4_0, fp_4_1, fp_4_2, fp_4_3, fp_4_4, fp_4_5, fp_4_6, fp_4_7, fp_5_0, fp_5_1, fp_5_2, fp_5_3, fp_5_4, fp_5_5, fp_5_6, fp_5_7, fp_6_0, fp_6_1, fp_6_2, fp_6_3, fp_6_4, fp_6_5, fp_6_6, fp_6_7, fp_6_8, fp_6_9, fp_6_10, fp_6_11, fp_6_12, fp_6_13, fp_6_14, fp_6_15, fp_7_0, fp_7_1, fp_7_2, fp_7_3, fp_7_4, fp_7_5, fp_7_6, fp_7_7, fp_7_8, fp_7_9, fp_7_10, fp_7_11, fp_7_12, fp_7_13, fp_7_14, fp_7_15, fp_7_16, fp_7_17, fp_7_18, fp_7_19, fp_7_20, fp_7_21, fp_7_22, fp_7_23, fp_7_24, iz_0_1, iz_0_2, iz_1_8, iz_1_9, iz_1_11, iz_2_1, iz_2_2, iz_2_3, iz_3_1, iz_4_1, iz_4_2, iz_5_0, iz_6_8, iz_6_9, iz_6_13, iz_6_14, iz_6_15, iz_7_2, iz_7_6, iz_7_12, iz_7_20, iz_7_21, iz_7_23, iz_7_24, ak_8, ak_9, ak_10, ak_11, ak_12, ak_13, ak_14, ak_15, ak_16, ak_17, ak_18, ak_19, ak_20, ak_21, ak_22, ak_23, ak_24, ak_25, ak_26, ak_27, ak_28, ak_29, ak_30, ak_31, ak_32, ak_33, ak_34, ak_35, ak_36, ak_37, ak_38, ak_39, ak_40, ak_41, ak_42, ak_43, ak_44, ak_45, ak_46, ak_47, ak_48, ak_49, ak_50, ak_51, ak_52, ak_53, ak_54, ak_55, ak_56, el31, el33, el34, CX5_allWork, ca_X5_allWork, frX5, kcX5, klX5, T_X5_work, exists_eq_right_right, exists_eq_right, exists_eq_left, Nat.lt_irrefl, and_self, implies_true, forall_const]
        grind (splits := 60) [inR, wF_0]
    · exact h.elim
end
section
def ca_X0_record : Nat → Option (Nat × Nat × Tr)
  | 22 => some (2, 5, T_X5_become)
  | _ => none
theorem cao_X0_record (l : Launch) : ∀ k n' ci T', ca_X0_record k = some (n', ci, T') → ∃ nn, nn + 1 ≤ 2 ∧ Site l yX0_record.cls k n' ci nn T' := by
  intro k n' ci T' h
  unfold ca_X0_record at h
  split at h
  · cases h; exact ⟨1, by decide, _, _, _, _, k_X5_become l, Or.inl ⟨_, rfl, FX5_become, KRX0_22⟩⟩
  · cases h
def T_X0_record : Tr := fun a σ K => match a with
  | [.inr (.inl (0, 0)), .inr (.inl (5, i))] => (0 ≤ σ 0 0 2 ∧ σ 0 0 2 < 6 ∧ 0 ≤ σ 0 0 1 ∧ σ 0 0 1 ≤ 6) ∧ ∀ σ' : Mem, (∀ t k j, σ' t k j = if t = 0 ∧ k = 0 ∧ j = 2 then (σ 0 0 2 + 1) % 6 else if t = 0 ∧ k = 0 ∧ j = 1 then (if σ 0 0 1 < 6 then σ 0 0 1 + 1 else σ 0 0 1) else if k = 2 + ((σ 0 0 2 + 1) % 6).toNat ∧ ((t = 5 ∧ j = 0) ∨ (8 ≤ t ∧ t ≤ 14 ∧ 0 ≤ j ∧ j < (if t = 11 ∨ t = 12 ∨ t = 14 then 16 else 4))) then σ t i j else σ t k j) → K none σ'
  | _ => False
set_option maxHeartbeats 4000000 in
set_option maxRecDepth 20000 in
theorem k_X0_record (l : Launch) : Ct l yX0_record cX0_record 2 none 2 T_X0_record := by
  refine mk_met (by decide +kernel) hCX0_record lCX0_record frX0_ok cstX0_ok (cao_X0_record l) ?_ ?_
  · intro a σ K h
    unfold T_X0_record at h
    split at h
    · simp [eL]
    · exact h.elim
  · intro a σ K ha hR h
    unfold T_X0_record at h
    split at h
    · rename_i i
      refine ⟨fun _ => none, 200, fun pc I L S σ' k h => (by cases h), ?_⟩
      simp only [wp, stp, drp, entL, eL, lget, lset, okst, cnd, swt, rcv, Kr_int, Kr_bool, Kr_void, List.length_cons, List.length_nil, List.replicate, List.append_nil, List.cons_append, List.nil_append, List.take_succ_cons, List.take_zero, List.drop_succ_cons, List.drop_zero, List.reverse_cons, List.reverse_nil, Option.map_some, Option.map_none, Option.toList_some, Option.toList_none, Nat.reduceAdd, Nat.reduceSub, Nat.reduceLT, Nat.reduceLeDiff, Nat.reduceEqDiff, ↓reduceIte, Nat.add_zero, Nat.zero_add, true_and, and_true, Nat.le_refl, reduceCtorEq, false_implies, true_implies, not_true_eq_false, not_false_eq_true, Int.reduceAdd, Int.reduceSub, Int.reduceMul, Int.reduceLE, Int.reduceLT, Int.reduceEq, Int.reduceNe, Int.reduceNeg, Int.reduceDiv, Int.reduceMod, Bool.false_eq_true, Int.le_refl, and_self, true_or, or_true, inR_l, fv0, fv1, fv2, fv3, nc2, nc4, nc6, nc16, nc25, nc60, nc65, nc80, nc130, nc384, nc390, fp_0_0, fp_0_1, fp_0_2, fp_1_0, fp_1_1, fp_1_2, fp_1_3, fp_1_4, fp_1_5, fp_1_6, fp_1_7, fp_1_8, fp_1_9, fp_1_10, fp_1_11, fp_1_12, fp_1_13, fp_1_14, fp_2_0, fp_2_1, fp_2_2, fp_2_3, fp_3_0, fp_3_1, fp_4_0, fp_4_1, fp_4_2, fp_4_3, fp_4_4, fp_4_5, fp_4_6, fp_4_7, fp_5_0, fp_5_1, fp_5_2, fp_5_3, fp_5_4, fp_5_5, fp_5_6, fp_5_7, fp_6_0, fp_6_1, fp_6_2, fp_6_3, fp_6_4, fp_6_5, fp_6_6, fp_6_7, fp_6_8, fp_6_9, fp_6_10, fp_6_11, fp_6_12, fp_6_13, fp_6_14, fp_6_15, fp_7_0, fp_7_1, fp_7_2, fp_7_3, fp_7_4, fp_7_5, fp_7_6, fp_7_7, fp_7_8, fp_7_9, fp_7_10, fp_7_11, fp_7_12, fp_7_13, fp_7_14, fp_7_15, fp_7_16, fp_7_17, fp_7_18, fp_7_19, fp_7_20, fp_7_21, fp_7_22, fp_7_23, fp_7_24, iz_0_1, iz_0_2, iz_1_8, iz_1_9, iz_1_11, iz_2_1, iz_2_2, iz_2_3, iz_3_1, iz_4_1, iz_4_2, iz_5_0, iz_6_8, iz_6_9, iz_6_13, iz_6_14, iz_6_15, iz_7_2, iz_7_6, iz_7_12, iz_7_20, iz_7_21, iz_7_23, iz_7_24, ak_8, ak_9, ak_10, ak_11, ak_12, ak_13, ak_14, ak_15, ak_16, ak_17, ak_18, ak_19, ak_20, ak_21, ak_22, ak_23, ak_24, ak_25, ak_26, ak_27, ak_28, ak_29, ak_30, ak_31, ak_32, ak_33, ak_34, ak_35, ak_36, ak_37, ak_38, ak_39, ak_40, ak_41, ak_42, ak_43, ak_44, ak_45, ak_46, ak_47, ak_48, ak_49, ak_50, ak_51, ak_52, ak_53, ak_54, ak_55, ak_56, el31, el33, el34, CX0_record, ca_X0_record, frX0, kcX0, klX0, T_X5_become, el33]
      obtain ⟨⟨p1, p2, p3, p4⟩, h⟩ := h
      refine ⟨⟨by omega, by omega⟩, by omega, ?_⟩
      have e : up σ 0 0 2 ((σ 0 0 2 + 1) % 6) 0 0 2 = (σ 0 0 2 + 1) % 6 := by simp [up]
      rw [e]
      refine ⟨⟨by omega, by omega⟩, ⟨by omega, by omega⟩, fun σ' hs => ?_⟩
      have h1 : σ' 0 0 1 = σ 0 0 1 := by
        rw [hs, if_neg (by rintro ⟨q, -⟩; omega)]
        simp [up]
      rw [h1]
      refine ⟨fun a => h σ' (fun t k j => ?_), fun a => ⟨⟨by omega, by omega⟩, h _ (fun t k j => ?_)⟩⟩
      · rw [hs]
        simp only [up]
        grind (splits := 40)
      · simp only [up]
        rw [hs]
        simp only [up]
        grind (splits := 40)
    · exact h.elim
def ca_X0_takeBack : Nat → Option (Nat × Nat × Tr)
  | 22 => some (2, 5, T_X5_become)
  | _ => none
theorem cao_X0_takeBack (l : Launch) : ∀ k n' ci T', ca_X0_takeBack k = some (n', ci, T') → ∃ nn, nn + 1 ≤ 2 ∧ Site l yX0_takeBack.cls k n' ci nn T' := by
  intro k n' ci T' h
  unfold ca_X0_takeBack at h
  split at h
  · cases h; exact ⟨1, by decide, _, _, _, _, k_X5_become l, Or.inl ⟨_, rfl, FX5_become, KRX0_22⟩⟩
  · cases h
def T_X0_takeBack : Tr := fun a σ K => match a with
  | [.inr (.inl (0, 0)), .inr (.inl (5, i))] => (0 ≤ σ 0 0 2 ∧ σ 0 0 2 < 6 ∧ σ 0 0 1 ≤ 6) ∧ (σ 0 0 1 ≤ 0 → K none σ) ∧ (0 < σ 0 0 1 → ∀ σ' : Mem, (∀ t k j, σ' t k j = if t = 0 ∧ k = 0 ∧ j = 2 then (σ 0 0 2 + 6 - 1) % 6 else if t = 0 ∧ k = 0 ∧ j = 1 then σ 0 0 1 - 1 else if k = i ∧ ((t = 5 ∧ j = 0) ∨ (8 ≤ t ∧ t ≤ 14 ∧ 0 ≤ j ∧ j < (if t = 11 ∨ t = 12 ∨ t = 14 then 16 else 4))) then σ t (2 + (σ 0 0 2).toNat) j else σ t k j) → K none σ')
  | _ => False
set_option maxHeartbeats 4000000 in
set_option maxRecDepth 20000 in
theorem k_X0_takeBack (l : Launch) : Ct l yX0_takeBack cX0_takeBack 2 none 2 T_X0_takeBack := by
  refine mk_met (by decide +kernel) hCX0_takeBack lCX0_takeBack frX0_ok cstX0_ok (cao_X0_takeBack l) ?_ ?_
  · intro a σ K h
    unfold T_X0_takeBack at h
    split at h
    · simp [eL]
    · exact h.elim
  · intro a σ K ha hR h
    unfold T_X0_takeBack at h
    split at h
    · rename_i i
      refine ⟨fun _ => none, 200, fun pc I L S σ' k h => (by cases h), ?_⟩
      simp only [wp, stp, drp, entL, eL, lget, lset, okst, cnd, swt, rcv, Kr_int, Kr_bool, Kr_void, List.length_cons, List.length_nil, List.replicate, List.append_nil, List.cons_append, List.nil_append, List.take_succ_cons, List.take_zero, List.drop_succ_cons, List.drop_zero, List.reverse_cons, List.reverse_nil, Option.map_some, Option.map_none, Option.toList_some, Option.toList_none, Nat.reduceAdd, Nat.reduceSub, Nat.reduceLT, Nat.reduceLeDiff, Nat.reduceEqDiff, ↓reduceIte, Nat.add_zero, Nat.zero_add, true_and, and_true, Nat.le_refl, reduceCtorEq, false_implies, true_implies, not_true_eq_false, not_false_eq_true, Int.reduceAdd, Int.reduceSub, Int.reduceMul, Int.reduceLE, Int.reduceLT, Int.reduceEq, Int.reduceNe, Int.reduceNeg, Int.reduceDiv, Int.reduceMod, Bool.false_eq_true, Int.le_refl, and_self, true_or, or_true, inR_l, fv0, fv1, fv2, fv3, nc2, nc4, nc6, nc16, nc25, nc60, nc65, nc80, nc130, nc384, nc390, fp_0_0, fp_0_1, fp_0_2, fp_1_0, fp_1_1, fp_1_2, fp_1_3, fp_1_4, fp_1_5, fp_1_6, fp_1_7, fp_1_8, fp_1_9, fp_1_10, fp_1_11, fp_1_12, fp_1_13, fp_1_14, fp_2_0, fp_2_1, fp_2_2, fp_2_3, fp_3_0, fp_3_1, fp_4_0, fp_4_1, fp_4_2, fp_4_3, fp_4_4, fp_4_5, fp_4_6, fp_4_7, fp_5_0, fp_5_1, fp_5_2, fp_5_3, fp_5_4, fp_5_5, fp_5_6, fp_5_7, fp_6_0, fp_6_1, fp_6_2, fp_6_3, fp_6_4, fp_6_5, fp_6_6, fp_6_7, fp_6_8, fp_6_9, fp_6_10, fp_6_11, fp_6_12, fp_6_13, fp_6_14, fp_6_15, fp_7_0, fp_7_1, fp_7_2, fp_7_3, fp_7_4, fp_7_5, fp_7_6, fp_7_7, fp_7_8, fp_7_9, fp_7_10, fp_7_11, fp_7_12, fp_7_13, fp_7_14, fp_7_15, fp_7_16, fp_7_17, fp_7_18, fp_7_19, fp_7_20, fp_7_21, fp_7_22, fp_7_23, fp_7_24, iz_0_1, iz_0_2, iz_1_8, iz_1_9, iz_1_11, iz_2_1, iz_2_2, iz_2_3, iz_3_1, iz_4_1, iz_4_2, iz_5_0, iz_6_8, iz_6_9, iz_6_13, iz_6_14, iz_6_15, iz_7_2, iz_7_6, iz_7_12, iz_7_20, iz_7_21, iz_7_23, iz_7_24, ak_8, ak_9, ak_10, ak_11, ak_12, ak_13, ak_14, ak_15, ak_16, ak_17, ak_18, ak_19, ak_20, ak_21, ak_22, ak_23, ak_24, ak_25, ak_26, ak_27, ak_28, ak_29, ak_30, ak_31, ak_32, ak_33, ak_34, ak_35, ak_36, ak_37, ak_38, ak_39, ak_40, ak_41, ak_42, ak_43, ak_44, ak_45, ak_46, ak_47, ak_48, ak_49, ak_50, ak_51, ak_52, ak_53, ak_54, ak_55, ak_56, el31, el33, el34, CX0_takeBack, ca_X0_takeBack, frX0, kcX0, klX0, T_X5_become, el33]
      obtain ⟨⟨p1, p2, p3⟩, h0, h⟩ := h
      refine ⟨fun a => h0 a, fun a => ⟨⟨p1, p2⟩, fun σ' hs => ?_⟩⟩
      have h1 : σ' 0 0 1 = σ 0 0 1 := by
        rw [hs, if_neg]
        rintro ⟨-, q⟩
        omega
      have h2 : σ' 0 0 2 = σ 0 0 2 := by
        rw [hs, if_neg]
        rintro ⟨-, q⟩
        omega
      have h3 : ∀ v, up σ' 0 0 2 v 0 0 1 = σ' 0 0 1 := fun v => by simp [up]
      rw [h3, h1, h2]
      refine ⟨⟨by omega, by omega⟩, ⟨by omega, by omega⟩, by omega, ⟨by omega, by omega⟩, h (by omega) _ (fun t k j => ?_)⟩
      simp only [up]
      rw [hs]
      grind (splits := 40)
    · exact h.elim
end
section
def ca_X6_record : Nat → Option (Nat × Nat × Tr)
  | 256 => some (2, 0, T_X0_record)
  | 253 => some (1, 6, T_X6_forgetAnswers)
  | _ => none
theorem cao_X6_record (l : Launch) : ∀ k n' ci T', ca_X6_record k = some (n', ci, T') → ∃ nn, nn + 1 ≤ 3 ∧ Site l yX6_record.cls k n' ci nn T' := by
  intro k n' ci T' h
  unfold ca_X6_record at h
  split at h
  · cases h; exact ⟨2, by decide, _, _, _, _, k_X0_record l, Or.inl ⟨_, rfl, FX0_record, KRX6_256⟩⟩
  · cases h; exact ⟨0, by decide, _, _, _, _, k_X6_forgetAnswers l, Or.inl ⟨_, rfl, FX6_forgetAnswers, KRX6_253⟩⟩
  · cases h
def T_X6_record : Tr := fun a σ K => match a with
  | [.inr (.inl (6, 0))] => (0 ≤ σ 0 0 2 ∧ σ 0 0 2 < 6 ∧ 0 ≤ σ 0 0 1 ∧ σ 0 0 1 ≤ 6) ∧ ∀ σ' : Mem, (∀ t k j, σ' t k j = if t = 0 ∧ k = 0 ∧ j = 2 then (σ 0 0 2 + 1) % 6 else if t = 0 ∧ k = 0 ∧ j = 1 then (if σ 0 0 1 < 6 then σ 0 0 1 + 1 else σ 0 0 1) else if (t = 6 ∧ k = 0 ∧ j = 8) ∨ (t = 4 ∧ (k = 0 ∨ k = 1) ∧ j = 1) then 0 else if k = 2 + ((σ 0 0 2 + 1) % 6).toNat ∧ ((t = 5 ∧ j = 0) ∨ (8 ≤ t ∧ t ≤ 14 ∧ 0 ≤ j ∧ j < (if t = 11 ∨ t = 12 ∨ t = 14 then 16 else 4))) then σ t 0 j else σ t k j) → K none σ'
  | _ => False
set_option maxHeartbeats 4000000 in
set_option maxRecDepth 20000 in
theorem k_X6_record (l : Launch) : Ct l yX6_record cX6_record 1 none 3 T_X6_record := by
  refine mk_met (by decide +kernel) hCX6_record lCX6_record frX6_ok cstX6_ok (cao_X6_record l) ?_ ?_
  · intro a σ K h
    unfold T_X6_record at h
    split at h
    · simp [eL]
    · exact h.elim
  · intro a σ K ha hR h
    unfold T_X6_record at h
    split at h
    · refine ⟨fun _ => none, 200, fun pc I L S σ' k h => (by cases h), ?_⟩
      simp only [wp, stp, drp, entL, eL, lget, lset, okst, cnd, swt, rcv, Kr_int, Kr_bool, Kr_void, List.length_cons, List.length_nil, List.replicate, List.append_nil, List.cons_append, List.nil_append, List.take_succ_cons, List.take_zero, List.drop_succ_cons, List.drop_zero, List.reverse_cons, List.reverse_nil, Option.map_some, Option.map_none, Option.toList_some, Option.toList_none, Nat.reduceAdd, Nat.reduceSub, Nat.reduceLT, Nat.reduceLeDiff, Nat.reduceEqDiff, ↓reduceIte, Nat.add_zero, Nat.zero_add, true_and, and_true, Nat.le_refl, reduceCtorEq, false_implies, true_implies, not_true_eq_false, not_false_eq_true, Int.reduceAdd, Int.reduceSub, Int.reduceMul, Int.reduceLE, Int.reduceLT, Int.reduceEq, Int.reduceNe, Int.reduceNeg, Int.reduceDiv, Int.reduceMod, Bool.false_eq_true, Int.le_refl, and_self, true_or, or_true, inR_l, fv0, fv1, fv2, fv3, nc2, nc4, nc6, nc16, nc25, nc60, nc65, nc80, nc130, nc384, nc390, fp_0_0, fp_0_1, fp_0_2, fp_1_0, fp_1_1, fp_1_2, fp_1_3, fp_1_4, fp_1_5, fp_1_6, fp_1_7, fp_1_8, fp_1_9, fp_1_10, fp_1_11, fp_1_12, fp_1_13, fp_1_14, fp_2_0, fp_2_1, fp_2_2, fp_2_3, fp_3_0, fp_3_1, fp_4_0, fp_4_1, fp_4_2, fp_4_3, fp_4_4, fp_4_5, fp_4_6, fp_4_7, fp_5_0, fp_5_1, fp_5_2, fp_5_3, fp_5_4, fp_5_5, fp_5_6, fp_5_7, fp_6_0, fp_6_1, fp_6_2, fp_6_3, fp_6_4, fp_6_5, fp_6_6, fp_6_7, fp_6_8, fp_6_9, fp_6_10, fp_6_11, fp_6_12, fp_6_13, fp_6_14, fp_6_15, fp_7_0, fp_7_1, fp_7_2, fp_7_3, fp_7_4, fp_7_5, fp_7_6, fp_7_7, fp_7_8, fp_7_9, fp_7_10, fp_7_11, fp_7_12, fp_7_13, fp_7_14, fp_7_15, fp_7_16, fp_7_17, fp_7_18, fp_7_19, fp_7_20, fp_7_21, fp_7_22, fp_7_23, fp_7_24, iz_0_1, iz_0_2, iz_1_8, iz_1_9, iz_1_11, iz_2_1, iz_2_2, iz_2_3, iz_3_1, iz_4_1, iz_4_2, iz_5_0, iz_6_8, iz_6_9, iz_6_13, iz_6_14, iz_6_15, iz_7_2, iz_7_6, iz_7_12, iz_7_20, iz_7_21, iz_7_23, iz_7_24, ak_8, ak_9, ak_10, ak_11, ak_12, ak_13, ak_14, ak_15, ak_16, ak_17, ak_18, ak_19, ak_20, ak_21, ak_22, ak_23, ak_24, ak_25, ak_26, ak_27, ak_28, ak_29, ak_30, ak_31, ak_32, ak_33, ak_34, ak_35, ak_36, ak_37, ak_38, ak_39, ak_40, ak_41, ak_42, ak_43, ak_44, ak_45, ak_46, ak_47, ak_48, ak_49, ak_50, ak_51, ak_52, ak_53, ak_54, ak_55, ak_56, el31, el33, el34, CX6_record, ca_X6_record, frX6, kcX6, klX6, T_X0_record, T_X6_forgetAnswers]
      obtain ⟨⟨p1, p2, p3, p4⟩, h⟩ := h
      refine ⟨⟨p1, p2, p3, p4⟩, fun σ' hs => h _ (fun t k j => ?_)⟩
      simp only [up]
      rw [hs]
      grind (splits := 40)
    · exact h.elim
end
section
/-- keep: the rows move down by one (first k places) -/
def K1 (σ σ' : Mem) (k : Int) : Prop := (∀ t a x, (t ≠ 39 ∨ a ≠ 0) → σ' t a x = σ t a x) ∧ (∀ x, 0 ≤ x → x < k → σ' 39 0 x = σ 39 0 (x + 65)) ∧ (∀ x, k ≤ x → σ' 39 0 x = σ 39 0 x)
/-- how many rows stand below the new one -/
def kB (σ : Mem) : Int := if σ 7 0 2 = 6 then 5 else σ 7 0 2
def K2 (σ σ' : Mem) (k : Int) : Prop := (∀ t a x, (t ≠ 39 ∨ a ≠ 0) → ¬ (t = 7 ∧ a = 0 ∧ x = 2) → σ' t a x = σ t a x) ∧ σ' 7 0 2 = kB σ ∧ (∀ x, 0 ≤ x → x < 65 * kB σ → σ' 39 0 x = if σ 7 0 2 = 6 then σ 39 0 (x + 65) else σ 39 0 x) ∧ (∀ x, 0 ≤ x → x < k → σ' 39 0 (65 * kB σ + x) = σ 38 0 x)
theorem K1_0 (σ : Mem) : K1 σ σ 0 := ⟨fun _ _ _ _ => rfl, fun x a b => by omega, fun _ _ => rfl⟩
theorem K1_s {σ σ' : Mem} {k : Int} (h : K1 σ σ' k) (h0 : 0 ≤ k) : K1 σ (up σ' 39 0 k (σ' 39 0 (k + 65))) (k + 1) := by
  obtain ⟨a1, a2, a3⟩ := h
  refine ⟨fun t a x q => ?_, fun x p q => ?_, fun x p => ?_⟩
  · unfold up
    rw [if_neg, a1 t a x q]
    rintro ⟨rfl, rfl, -⟩
    rcases q with q | q <;> exact q rfl
  · unfold up
    rcases (show x < k ∨ x = k by omega) with r | rfl
    · rw [if_neg (by rintro ⟨-, -, s⟩; omega), a2 x p r]
    · rw [if_pos ⟨rfl, rfl, rfl⟩, a3 _ (by omega)]
  · unfold up
    rw [if_neg (by rintro ⟨-, -, s⟩; omega), a3 x (by omega)]
theorem K2_a {σ σ' : Mem} (h : K1 σ σ' 325) (h6 : σ 7 0 2 = 6) : K2 σ (up σ' 7 0 2 (σ' 7 0 2 - 1)) 0 := by
  obtain ⟨a1, a2, a3⟩ := h
  have e : σ' 7 0 2 = σ 7 0 2 := a1 7 0 2 (Or.inl (by decide))
  have hb : kB σ = 5 := by simp [kB, h6]
  refine ⟨fun t a x q r => ?_, ?_, fun x p q => ?_, fun x p q => by omega⟩
  · unfold up
    rw [if_neg r, a1 t a x q]
  · unfold up
    rw [if_pos ⟨rfl, rfl, rfl⟩, hb, e, h6]
    rfl
  · unfold up
    rw [if_neg (by rintro ⟨s, -⟩; omega), if_pos h6, a2 x p (by omega)]
theorem K2_b {σ : Mem} (h6 : ¬ σ 7 0 2 = 6) : K2 σ σ 0 := ⟨fun _ _ _ _ _ => rfl, by simp [kB, h6], fun x p q => by rw [if_neg h6], fun x p q => by omega⟩
theorem K2_s {σ σ' : Mem} {k : Int} (h : K2 σ σ' k) (h0 : 0 ≤ k) (hk : k < 65) : K2 σ (up σ' 39 0 (65 * σ' 7 0 2 + k) (σ' 38 0 k)) (k + 1) := by
  obtain ⟨a1, a2, a3, a4⟩ := h
  rw [a2]
  refine ⟨fun t a x q r => ?_, ?_, fun x p q => ?_, fun x p q => ?_⟩
  · unfold up
    rw [if_neg, a1 t a x q r]
    rintro ⟨rfl, rfl, -⟩
    rcases q with q | q <;> exact q rfl
  · unfold up
    rw [if_neg (by rintro ⟨s, -⟩; omega), a2]
  · unfold up
    rw [if_neg (by rintro ⟨-, -, s⟩; omega), a3 x p q]
  · unfold up
    rcases (show x < k ∨ x = k by omega) with r | rfl
    · rw [if_neg (by rintro ⟨-, -, s⟩; omega), a4 x p r]
    · rw [if_pos ⟨rfl, rfl, rfl⟩, a1 38 0 x (Or.inl (by decide)) (by rintro ⟨s, -⟩; omega)]
def ca_X7_keep : Nat → Option (Nat × Nat × Tr) := fun _ => none
theorem cao_X7_keep (l : Launch) : ∀ k n' ci T', ca_X7_keep k = some (n', ci, T') → ∃ nn, nn + 1 ≤ 0 ∧ Site l yX7_keep.cls k n' ci nn T' := by
  intro k n' ci T' h
  cases h
def T_X7_keep : Tr := fun a σ K => match a with
  | [.inr (.inl (7, 0))] => (0 ≤ σ 7 0 2 ∧ σ 7 0 2 ≤ 6) ∧ (∀ σ' : Mem, K2 σ σ' 65 → K none (up σ' 7 0 2 (kB σ + 1)))
  | _ => False
set_option maxHeartbeats 8000000 in
set_option maxRecDepth 20000 in
theorem k_X7_keep (l : Launch) : Ct l yX7_keep cX7_keep 2 none 0 T_X7_keep := by
  refine mk_met (by decide +kernel) hCX7_keep lCX7_keep frX7_ok cstX7_ok (cao_X7_keep l) ?_ ?_
  · intro a σ K h
    unfold T_X7_keep at h
    split at h
    · simp [eL]
    · exact h.elim
  · intro a σ K ha hR h
    unfold T_X7_keep at h
    split at h
    · refine ⟨fun pc => if pc = 11 then some (fun L S σ' k => match L, S with | [some (.inr (.inl c1)), some (.inl q)], [] => (c1 = (7, 0) ∧ σ 7 0 2 = 6 ∧ 0 ≤ q ∧ q ≤ 325 ∧ K1 σ σ' q) ∧ k = (1000 - q).toNat | _, _ => False) else if pc = 51 then some (fun L S σ' k => match L, S with | [some (.inr (.inl c1)), some (.inl q)], [] => (c1 = (7, 0) ∧ 0 ≤ q ∧ q ≤ 65 ∧ K2 σ σ' q) ∧ k = (65 - q).toNat | _, _ => False) else none, 200, ?_, ?_⟩
      · intro pc I L S σ' k hcut hi
        dsimp only at hcut
        split at hcut
        · rename_i hpc
          subst hpc
          cases hcut
          try dsimp only at hi
          split at hi
          · rename_i c1 q
            obtain ⟨hi, rfl⟩ := hi
            obtain ⟨rfl, h6, h0, h1, h2⟩ := hi
            obtain ⟨⟨p1, p2⟩, h⟩ := h
            simp only [wp, stp, drp, entL, eL, lget, lset, okst, cnd, swt, rcv, Kr_int, Kr_bool, Kr_void, List.length_cons, List.length_nil, List.replicate, List.append_nil, List.cons_append, List.nil_append, List.take_succ_cons, List.take_zero, List.drop_succ_cons, List.drop_zero, List.reverse_cons, List.reverse_nil, Option.map_some, Option.map_none, Option.toList_some, Option.toList_none, Nat.reduceAdd, Nat.reduceSub, Nat.reduceLT, Nat.reduceLeDiff, Nat.reduceEqDiff, ↓reduceIte, Nat.add_zero, Nat.zero_add, true_and, and_true, Nat.le_refl, reduceCtorEq, false_implies, true_implies, not_true_eq_false, not_false_eq_true, Int.reduceAdd, Int.reduceSub, Int.reduceMul, Int.reduceLE, Int.reduceLT, Int.reduceEq, Int.reduceNe, Int.reduceNeg, Int.reduceDiv, Int.reduceMod, Bool.false_eq_true, Int.le_refl, and_self, true_or, or_true, inR_l, fv0, fv1, fv2, fv3, nc2, nc4, nc6, nc16, nc25, nc60, nc65, nc80, nc130, nc384, nc390, fp_0_0, fp_0_1, fp_0_2, fp_1_0, fp_1_1, fp_1_2, fp_1_3, fp_1_4, fp_1_5, fp_1_6, fp_1_7, fp_1_8, fp_1_9, fp_1_10, fp_1_11, fp_1_12, fp_1_13, fp_1_14, fp_2_0, fp_2_1, fp_2_2, fp_2_3, fp_3_0, fp_3_1, fp_4_0, fp_4_1, fp_4_2, fp_4_3, fp_4_4, fp_4_5, fp_4_6, fp_4_7, fp_5_0, fp_5_1, fp_5_2, fp_5_3, fp_5_4, fp_5_5, fp_5_6, fp_5_7, fp_6_0, fp_6_1, fp_6_2, fp_6_3, fp_6_4, fp_6_5, fp_6_6, fp_6_7, fp_6_8, fp_6_9, fp_6_10, fp_6_11, fp_6_12, fp_6_13, fp_6_14, fp_6_15, fp_7_0, fp_7_1, fp_7_2, fp_7_3, fp_7_4, fp_7_5, fp_7_6, fp_7_7, fp_7_8, fp_7_9, fp_7_10, fp_7_11, fp_7_12, fp_7_13, fp_7_14, fp_7_15, fp_7_16, fp_7_17, fp_7_18, fp_7_19, fp_7_20, fp_7_21, fp_7_22, fp_7_23, fp_7_24, iz_0_1, iz_0_2, iz_1_8, iz_1_9, iz_1_11, iz_2_1, iz_2_2, iz_2_3, iz_3_1, iz_4_1, iz_4_2, iz_5_0, iz_6_8, iz_6_9, iz_6_13, iz_6_14, iz_6_15, iz_7_2, iz_7_6, iz_7_12, iz_7_20, iz_7_21, iz_7_23, iz_7_24, ak_8, ak_9, ak_10, ak_11, ak_12, ak_13, ak_14, ak_15, ak_16, ak_17, ak_18, ak_19, ak_20, ak_21, ak_22, ak_23, ak_24, ak_25, ak_26, ak_27, ak_28, ak_29, ak_30, ak_31, ak_32, ak_33, ak_34, ak_35, ak_36, ak_37, ak_38, ak_39, ak_40, ak_41, ak_42, ak_43, ak_44, ak_45, ak_46, ak_47, ak_48, ak_49, ak_50, ak_51, ak_52, ak_53, ak_54, ak_55, ak_56, el31, el33, el34, CX7_keep, ca_X7_keep, frX7, kcX7, klX7, exists_eq_right_right, exists_eq_right, exists_eq_left, Nat.lt_irrefl, and_self, implies_true, forall_const]
            have e7 : σ' 7 0 2 = σ 7 0 2 := h2.1 7 0 2 (Or.inl (by decide))
            refine ⟨fun a => ⟨⟨by omega, by omega⟩, by omega, ?_⟩, fun a => ⟨⟨by omega, by omega⟩, ⟨by omega, by omega⟩, ⟨by omega, by omega⟩, ⟨by omega, by omega⟩, by omega, h6, by omega, by omega, K1_s h2 h0⟩⟩
            have e8 : q = 325 := by omega
            rw [e8] at h2
            exact K2_a h2 h6
          · exact hi.elim
        · split at hcut
          · rename_i hpc
            subst hpc
            cases hcut
            try dsimp only at hi
            split at hi
            · rename_i c1 q
              obtain ⟨hi, rfl⟩ := hi
              obtain ⟨rfl, h0, h1, h2⟩ := hi
              obtain ⟨⟨p1, p2⟩, h⟩ := h
              simp only [wp, stp, drp, entL, eL, lget, lset, okst, cnd, swt, rcv, Kr_int, Kr_bool, Kr_void, List.length_cons, List.length_nil, List.replicate, List.append_nil, List.cons_append, List.nil_append, List.take_succ_cons, List.take_zero, List.drop_succ_cons, List.drop_zero, List.reverse_cons, List.reverse_nil, Option.map_some, Option.map_none, Option.toList_some, Option.toList_none, Nat.reduceAdd, Nat.reduceSub, Nat.reduceLT, Nat.reduceLeDiff, Nat.reduceEqDiff, ↓reduceIte, Nat.add_zero, Nat.zero_add, true_and, and_true, Nat.le_refl, reduceCtorEq, false_implies, true_implies, not_true_eq_false, not_false_eq_true, Int.reduceAdd, Int.reduceSub, Int.reduceMul, Int.reduceLE, Int.reduceLT, Int.reduceEq, Int.reduceNe, Int.reduceNeg, Int.reduceDiv, Int.reduceMod, Bool.false_eq_true, Int.le_refl, and_self, true_or, or_true, inR_l, fv0, fv1, fv2, fv3, nc2, nc4, nc6, nc16, nc25, nc60, nc65, nc80, nc130, nc384, nc390, fp_0_0, fp_0_1, fp_0_2, fp_1_0, fp_1_1, fp_1_2, fp_1_3, fp_1_4, fp_1_5, fp_1_6, fp_1_7, fp_1_8, fp_1_9, fp_1_10, fp_1_11, fp_1_12, fp_1_13, fp_1_14, fp_2_0, fp_2_1, fp_2_2, fp_2_3, fp_3_0, fp_3_1, fp_4_0, fp_4_1, fp_4_2, fp_4_3, fp_4_4, fp_4_5, fp_4_6, fp_4_7, fp_5_0, fp_5_1, fp_5_2, fp_5_3, fp_5_4, fp_5_5, fp_5_6, fp_5_7, fp_6_0, fp_6_1, fp_6_2, fp_6_3, fp_6_4, fp_6_5, fp_6_6, fp_6_7, fp_6_8, fp_6_9, fp_6_10, fp_6_11, fp_6_12, fp_6_13, fp_6_14, fp_6_15, fp_7_0, fp_7_1, fp_7_2, fp_7_3, fp_7_4, fp_7_5, fp_7_6, fp_7_7, fp_7_8, fp_7_9, fp_7_10, fp_7_11, fp_7_12, fp_7_13, fp_7_14, fp_7_15, fp_7_16, fp_7_17, fp_7_18, fp_7_19, fp_7_20, fp_7_21, fp_7_22, fp_7_23, fp_7_24, iz_0_1, iz_0_2, iz_1_8, iz_1_9, iz_1_11, iz_2_1, iz_2_2, iz_2_3, iz_3_1, iz_4_1, iz_4_2, iz_5_0, iz_6_8, iz_6_9, iz_6_13, iz_6_14, iz_6_15, iz_7_2, iz_7_6, iz_7_12, iz_7_20, iz_7_21, iz_7_23, iz_7_24, ak_8, ak_9, ak_10, ak_11, ak_12, ak_13, ak_14, ak_15, ak_16, ak_17, ak_18, ak_19, ak_20, ak_21, ak_22, ak_23, ak_24, ak_25, ak_26, ak_27, ak_28, ak_29, ak_30, ak_31, ak_32, ak_33, ak_34, ak_35, ak_36, ak_37, ak_38, ak_39, ak_40, ak_41, ak_42, ak_43, ak_44, ak_45, ak_46, ak_47, ak_48, ak_49, ak_50, ak_51, ak_52, ak_53, ak_54, ak_55, ak_56, el31, el33, el34, CX7_keep, ca_X7_keep, frX7, kcX7, klX7, exists_eq_right_right, exists_eq_right, exists_eq_left, Nat.lt_irrefl, and_self, implies_true, forall_const]
              have e7 := h2.2.1
              have e9 : 0 ≤ kB σ ∧ kB σ ≤ 5 := by
                unfold kB
                split <;> omega
              refine ⟨fun a => ⟨⟨by omega, by omega⟩, ?_⟩, fun a => ⟨⟨by omega, by omega⟩, ⟨by omega, by omega⟩, ⟨by omega, by omega⟩, ⟨by omega, by omega⟩, ⟨by omega, by omega⟩, by omega, by omega, by omega, K2_s h2 h0 (by omega)⟩⟩
              have e8 : q = 65 := by omega
              rw [e8] at h2
              rw [e7]
              exact h σ' h2
            · exact hi.elim
          · cases hcut
      · simp only [wp, stp, drp, entL, eL, lget, lset, okst, cnd, swt, rcv, Kr_int, Kr_bool, Kr_void, List.length_cons, List.length_nil, List.replicate, List.append_nil, List.cons_append, List.nil_append, List.take_succ_cons, List.take_zero, List.drop_succ_cons, List.drop_zero, List.reverse_cons, List.reverse_nil, Option.map_some, Option.map_none, Option.toList_some, Option.toList_none, Nat.reduceAdd, Nat.reduceSub, Nat.reduceLT, Nat.reduceLeDiff, Nat.reduceEqDiff, ↓reduceIte, Nat.add_zero, Nat.zero_add, true_and, and_true, Nat.le_refl, reduceCtorEq, false_implies, true_implies, not_true_eq_false, not_false_eq_true, Int.reduceAdd, Int.reduceSub, Int.reduceMul, Int.reduceLE, Int.reduceLT, Int.reduceEq, Int.reduceNe, Int.reduceNeg, Int.reduceDiv, Int.reduceMod, Bool.false_eq_true, Int.le_refl, and_self, true_or, or_true, inR_l, fv0, fv1, fv2, fv3, nc2, nc4, nc6, nc16, nc25, nc60, nc65, nc80, nc130, nc384, nc390, fp_0_0, fp_0_1, fp_0_2, fp_1_0, fp_1_1, fp_1_2, fp_1_3, fp_1_4, fp_1_5, fp_1_6, fp_1_7, fp_1_8, fp_1_9, fp_1_10, fp_1_11, fp_1_12, fp_1_13, fp_1_14, fp_2_0, fp_2_1, fp_2_2, fp_2_3, fp_3_0, fp_3_1, fp_4_0, fp_4_1, fp_4_2, fp_4_3, fp_4_4, fp_4_5, fp_4_6, fp_4_7, fp_5_0, fp_5_1, fp_5_2, fp_5_3, fp_5_4, fp_5_5, fp_5_6, fp_5_7, fp_6_0, fp_6_1, fp_6_2, fp_6_3, fp_6_4, fp_6_5, fp_6_6, fp_6_7, fp_6_8, fp_6_9, fp_6_10, fp_6_11, fp_6_12, fp_6_13, fp_6_14, fp_6_15, fp_7_0, fp_7_1, fp_7_2, fp_7_3, fp_7_4, fp_7_5, fp_7_6, fp_7_7, fp_7_8, fp_7_9, fp_7_10, fp_7_11, fp_7_12, fp_7_13, fp_7_14, fp_7_15, fp_7_16, fp_7_17, fp_7_18, fp_7_19, fp_7_20, fp_7_21, fp_7_22, fp_7_23, fp_7_24, iz_0_1, iz_0_2, iz_1_8, iz_1_9, iz_1_11, iz_2_1, iz_2_2, iz_2_3, iz_3_1, iz_4_1, iz_4_2, iz_5_0, iz_6_8, iz_6_9, iz_6_13, iz_6_14, iz_6_15, iz_7_2, iz_7_6, iz_7_12, iz_7_20, iz_7_21, iz_7_23, iz_7_24, ak_8, ak_9, ak_10, ak_11, ak_12, ak_13, ak_14, ak_15, ak_16, ak_17, ak_18, ak_19, ak_20, ak_21, ak_22, ak_23, ak_24, ak_25, ak_26, ak_27, ak_28, ak_29, ak_30, ak_31, ak_32, ak_33, ak_34, ak_35, ak_36, ak_37, ak_38, ak_39, ak_40, ak_41, ak_42, ak_43, ak_44, ak_45, ak_46, ak_47, ak_48, ak_49, ak_50, ak_51, ak_52, ak_53, ak_54, ak_55, ak_56, el31, el33, el34, CX7_keep, ca_X7_keep, frX7, kcX7, klX7, exists_eq_right_right, exists_eq_right, exists_eq_left, Nat.lt_irrefl, and_self, implies_true, forall_const]
        exact ⟨fun a => K2_b a, fun a => ⟨Classical.not_not.mp a, K1_0 σ⟩⟩
    · exact h.elim
end
section
/-- an operation of the machine m that can be worked on at the time tm -/
def uE (σ : Mem) (n : Nat) (m tm k : Int) : Prop := 0 ≤ σ 19 n (4 * m + k) ∧ 0 < σ 26 n k ∧ σ 21 n (σ 19 n (4 * m + k)) ≤ tm
/-- the first one with the greatest tail, over the first j jobs -/
def UI (σ : Mem) (n : Nat) (m tm c g j : Int) : Prop := (c = -6 ∧ g = -1 ∧ ∀ k, 0 ≤ k → k < j → ¬ uE σ n m tm k) ∨ (0 ≤ c ∧ c < j ∧ uE σ n m tm c ∧ g = σ 22 n (σ 19 n (4 * m + c)) ∧ (∀ k, 0 ≤ k → k < j → uE σ n m tm k → σ 22 n (σ 19 n (4 * m + k)) ≤ g) ∧ (∀ k, 0 ≤ k → k < c → uE σ n m tm k → σ 22 n (σ 19 n (4 * m + k)) < g))
theorem UI_0 {σ : Mem} {n : Nat} {m tm : Int} : UI σ n m tm (-6) (-1) 0 := Or.inl ⟨rfl, rfl, fun k a b => by omega⟩
theorem UI_skip {σ : Mem} {n : Nat} {m tm c g j : Int} (h : UI σ n m tm c g j) (hn : ¬ uE σ n m tm j) : UI σ n m tm c g (j + 1) := by
  rcases h with ⟨a1, a2, a3⟩ | ⟨a1, a2, a3, a4, a5, a6⟩
  · refine Or.inl ⟨a1, a2, fun k p q => ?_⟩
    rcases (show k < j ∨ k = j by omega) with r | rfl
    · exact a3 k p r
    · exact hn
  · refine Or.inr ⟨a1, by omega, a3, a4, fun k p q s => ?_, a6⟩
    rcases (show k < j ∨ k = j by omega) with r | rfl
    · exact a5 k p r s
    · exact absurd s hn
theorem UI_low {σ : Mem} {n : Nat} {m tm c g j : Int} (h : UI σ n m tm c g j) (h0 : 0 ≤ σ 22 n (σ 19 n (4 * m + j))) (hl : σ 22 n (σ 19 n (4 * m + j)) ≤ g) : UI σ n m tm c g (j + 1) := by
  rcases h with ⟨a1, a2, a3⟩ | ⟨a1, a2, a3, a4, a5, a6⟩
  · omega
  · refine Or.inr ⟨a1, by omega, a3, a4, fun k p q s => ?_, a6⟩
    rcases (show k < j ∨ k = j by omega) with r | rfl
    · exact a5 k p r s
    · exact hl
theorem UI_take {σ : Mem} {n : Nat} {m tm c g j : Int} (h : UI σ n m tm c g j) (hj : 0 ≤ j) (he : uE σ n m tm j) (hl : ¬ σ 22 n (σ 19 n (4 * m + j)) ≤ g) : UI σ n m tm j (σ 22 n (σ 19 n (4 * m + j))) (j + 1) := by
  refine Or.inr ⟨hj, by omega, he, rfl, fun k p q s => ?_, fun k p q s => ?_⟩
  · rcases h with ⟨a1, a2, a3⟩ | ⟨a1, a2, a3, a4, a5, a6⟩
    · rcases (show k < j ∨ k = j by omega) with r | rfl
      · exact absurd s (a3 k p r)
      · exact Int.le_refl _
    · rcases (show k < j ∨ k = j by omega) with r | rfl
      · have := a5 k p r s
        omega
      · exact Int.le_refl _
  · rcases h with ⟨a1, a2, a3⟩ | ⟨a1, a2, a3, a4, a5, a6⟩
    · exact absurd s (a3 k p q)
    · have := a5 k p q s
      omega
def ca_X1_mostUrgent : Nat → Option (Nat × Nat × Tr) := fun _ => none
theorem cao_X1_mostUrgent (l : Launch) : ∀ k n' ci T', ca_X1_mostUrgent k = some (n', ci, T') → ∃ nn, nn + 1 ≤ 0 ∧ Site l yX1_mostUrgent.cls k n' ci nn T' := by
  intro k n' ci T' h
  cases h
def T_X1_mostUrgent : Tr := fun a σ K => match a with
  | [.inr (.inl (1, n)), .inl m, .inl tm] => (0 ≤ m ∧ m < 4 ∧ (∀ k, 0 ≤ k → k < 4 → σ 19 n (4 * m + k) < 16 ∧ (0 ≤ σ 19 n (4 * m + k) → 0 ≤ σ 22 n (σ 19 n (4 * m + k))))) ∧ ∀ r g, UI σ n m tm r g 4 → K (some r) σ
  | _ => False
set_option maxHeartbeats 8000000 in
set_option maxRecDepth 20000 in
theorem k_X1_mostUrgent (l : Launch) : Ct l yX1_mostUrgent cX1_mostUrgent 7 (some .int) 0 T_X1_mostUrgent := by
  refine mk_met (by decide +kernel) hCX1_mostUrgent lCX1_mostUrgent frX1_ok cstX1_ok (cao_X1_mostUrgent l) ?_ ?_
  · intro a σ K h
    unfold T_X1_mostUrgent at h
    split at h
    · simp [eL]
    · exact h.elim
  · intro a σ K ha hR h
    unfold T_X1_mostUrgent at h
    split at h
    · rename_i n m tm
      refine ⟨fun pc => if pc = 9 then some (fun L S σ' k => match L, S with | [some (.inr (.inl c1)), some (.inl m'), some (.inl tm'), some (.inl c), some (.inl g), some (.inl j), _], [] => (c1 = (1, n) ∧ m' = m ∧ tm' = tm ∧ σ' = σ ∧ 0 ≤ j ∧ j ≤ 4 ∧ UI σ n m tm c g j) ∧ k = (4 - j).toNat | _, _ => False) else none, 200, ?_, ?_⟩
      · intro pc I L S σ' k hcut hi
        dsimp only at hcut
        split at hcut
        · rename_i hpc
          subst hpc
          cases hcut
          try dsimp only at hi
          split at hi
          · rename_i c1 m' tm' c g j x1
            obtain ⟨hi, rfl⟩ := hi
            obtain ⟨rfl, rfl, rfl, rfl, h0, h1, h2⟩ := hi
            obtain ⟨⟨p1, p2, p3⟩, h⟩ := h
            simp only [wp, stp, drp, entL, eL, lget, lset, okst, cnd, swt, rcv, Kr_int, Kr_bool, Kr_void, List.length_cons, List.length_nil, List.replicate, List.append_nil, List.cons_append, List.nil_append, List.take_succ_cons, List.take_zero, List.drop_succ_cons, List.drop_zero, List.reverse_cons, List.reverse_nil, Option.map_some, Option.map_none, Option.toList_some, Option.toList_none, Nat.reduceAdd, Nat.reduceSub, Nat.reduceLT, Nat.reduceLeDiff, Nat.reduceEqDiff, ↓reduceIte, Nat.add_zero, Nat.zero_add, true_and, and_true, Nat.le_refl, reduceCtorEq, false_implies, true_implies, not_true_eq_false, not_false_eq_true, Int.reduceAdd, Int.reduceSub, Int.reduceMul, Int.reduceLE, Int.reduceLT, Int.reduceEq, Int.reduceNe, Int.reduceNeg, Int.reduceDiv, Int.reduceMod, Bool.false_eq_true, Int.le_refl, and_self, true_or, or_true, inR_l, fv0, fv1, fv2, fv3, nc2, nc4, nc6, nc16, nc25, nc60, nc65, nc80, nc130, nc384, nc390, fp_0_0, fp_0_1, fp_0_2, fp_1_0, fp_1_1, fp_1_2, fp_1_3, fp_1_4, fp_1_5, fp_1_6, fp_1_7, fp_1_8, fp_1_9, fp_1_10, fp_1_11, fp_1_12, fp_1_13, fp_1_14, fp_2_0, fp_2_1, fp_2_2, fp_2_3, fp_3_0, fp_3_1, fp_4_0, fp_4_1, fp_4_2, fp_4_3, fp_4_4, fp_4_5, fp_4_6, fp_4_7, fp_5_0, fp_5_1, fp_5_2, fp_5_3, fp_5_4, fp_5_5, fp_5_6, fp_5_7, fp_6_0, fp_6_1, fp_6_2, fp_6_3, fp_6_4, fp_6_5, fp_6_6, fp_6_7, fp_6_8, fp_6_9, fp_6_10, fp_6_11, fp_6_12, fp_6_13, fp_6_14, fp_6_15, fp_7_0, fp_7_1, fp_7_2, fp_7_3, fp_7_4, fp_7_5, fp_7_6, fp_7_7, fp_7_8, fp_7_9, fp_7_10, fp_7_11, fp_7_12, fp_7_13, fp_7_14, fp_7_15, fp_7_16, fp_7_17, fp_7_18, fp_7_19, fp_7_20, fp_7_21, fp_7_22, fp_7_23, fp_7_24, iz_0_1, iz_0_2, iz_1_8, iz_1_9, iz_1_11, iz_2_1, iz_2_2, iz_2_3, iz_3_1, iz_4_1, iz_4_2, iz_5_0, iz_6_8, iz_6_9, iz_6_13, iz_6_14, iz_6_15, iz_7_2, iz_7_6, iz_7_12, iz_7_20, iz_7_21, iz_7_23, iz_7_24, ak_8, ak_9, ak_10, ak_11, ak_12, ak_13, ak_14, ak_15, ak_16, ak_17, ak_18, ak_19, ak_20, ak_21, ak_22, ak_23, ak_24, ak_25, ak_26, ak_27, ak_28, ak_29, ak_30, ak_31, ak_32, ak_33, ak_34, ak_35, ak_36, ak_37, ak_38, ak_39, ak_40, ak_41, ak_42, ak_43, ak_44, ak_45, ak_46, ak_47, ak_48, ak_49, ak_50, ak_51, ak_52, ak_53, ak_54, ak_55, ak_56, el31, el33, el34, CX1_mostUrgent, ca_X1_mostUrgent, frX1, kcX1, klX1, exists_eq_right_right, exists_eq_right, exists_eq_left, Nat.lt_irrefl, and_self, implies_true, forall_const]
            refine ⟨fun b => h c g (by rw [show (4 : Int) = j by omega]; exact h2), fun b => ?_⟩
            obtain ⟨q1, q2⟩ := p3 j h0 (by omega)
            refine ⟨⟨by omega, by omega⟩, ⟨by omega, by omega⟩, ⟨by omega, by omega⟩, fun d => ⟨⟨by omega, by omega⟩, by omega, by omega, by omega, UI_skip h2 (fun e => by have := e.1; omega)⟩, fun d => ⟨⟨by omega, by omega⟩, fun f => ⟨⟨by omega, by omega⟩, by omega, by omega, by omega, UI_skip h2 (fun e => by have := e.2.1; omega)⟩, fun f => ⟨⟨by omega, q1⟩, fun u => ⟨⟨by omega, by omega⟩, by omega, by omega, by omega, UI_skip h2 (fun e => by have := e.2.2; omega)⟩, fun u => ⟨⟨by omega, q1⟩, fun v => ⟨⟨by omega, by omega⟩, by omega, by omega, by omega, UI_low h2 (q2 (by omega)) v⟩, fun v => ⟨⟨by omega, q1⟩, ⟨by omega, by omega⟩, by omega, by omega, by omega, UI_take h2 h0 ⟨by omega, by omega, by omega⟩ v⟩⟩⟩⟩⟩
          · exact hi.elim
        · cases hcut
      · simp only [wp, stp, drp, entL, eL, lget, lset, okst, cnd, swt, rcv, Kr_int, Kr_bool, Kr_void, List.length_cons, List.length_nil, List.replicate, List.append_nil, List.cons_append, List.nil_append, List.take_succ_cons, List.take_zero, List.drop_succ_cons, List.drop_zero, List.reverse_cons, List.reverse_nil, Option.map_some, Option.map_none, Option.toList_some, Option.toList_none, Nat.reduceAdd, Nat.reduceSub, Nat.reduceLT, Nat.reduceLeDiff, Nat.reduceEqDiff, ↓reduceIte, Nat.add_zero, Nat.zero_add, true_and, and_true, Nat.le_refl, reduceCtorEq, false_implies, true_implies, not_true_eq_false, not_false_eq_true, Int.reduceAdd, Int.reduceSub, Int.reduceMul, Int.reduceLE, Int.reduceLT, Int.reduceEq, Int.reduceNe, Int.reduceNeg, Int.reduceDiv, Int.reduceMod, Bool.false_eq_true, Int.le_refl, and_self, true_or, or_true, inR_l, fv0, fv1, fv2, fv3, nc2, nc4, nc6, nc16, nc25, nc60, nc65, nc80, nc130, nc384, nc390, fp_0_0, fp_0_1, fp_0_2, fp_1_0, fp_1_1, fp_1_2, fp_1_3, fp_1_4, fp_1_5, fp_1_6, fp_1_7, fp_1_8, fp_1_9, fp_1_10, fp_1_11, fp_1_12, fp_1_13, fp_1_14, fp_2_0, fp_2_1, fp_2_2, fp_2_3, fp_3_0, fp_3_1, fp_4_0, fp_4_1, fp_4_2, fp_4_3, fp_4_4, fp_4_5, fp_4_6, fp_4_7, fp_5_0, fp_5_1, fp_5_2, fp_5_3, fp_5_4, fp_5_5, fp_5_6, fp_5_7, fp_6_0, fp_6_1, fp_6_2, fp_6_3, fp_6_4, fp_6_5, fp_6_6, fp_6_7, fp_6_8, fp_6_9, fp_6_10, fp_6_11, fp_6_12, fp_6_13, fp_6_14, fp_6_15, fp_7_0, fp_7_1, fp_7_2, fp_7_3, fp_7_4, fp_7_5, fp_7_6, fp_7_7, fp_7_8, fp_7_9, fp_7_10, fp_7_11, fp_7_12, fp_7_13, fp_7_14, fp_7_15, fp_7_16, fp_7_17, fp_7_18, fp_7_19, fp_7_20, fp_7_21, fp_7_22, fp_7_23, fp_7_24, iz_0_1, iz_0_2, iz_1_8, iz_1_9, iz_1_11, iz_2_1, iz_2_2, iz_2_3, iz_3_1, iz_4_1, iz_4_2, iz_5_0, iz_6_8, iz_6_9, iz_6_13, iz_6_14, iz_6_15, iz_7_2, iz_7_6, iz_7_12, iz_7_20, iz_7_21, iz_7_23, iz_7_24, ak_8, ak_9, ak_10, ak_11, ak_12, ak_13, ak_14, ak_15, ak_16, ak_17, ak_18, ak_19, ak_20, ak_21, ak_22, ak_23, ak_24, ak_25, ak_26, ak_27, ak_28, ak_29, ak_30, ak_31, ak_32, ak_33, ak_34, ak_35, ak_36, ak_37, ak_38, ak_39, ak_40, ak_41, ak_42, ak_43, ak_44, ak_45, ak_46, ak_47, ak_48, ak_49, ak_50, ak_51, ak_52, ak_53, ak_54, ak_55, ak_56, el31, el33, el34, CX1_mostUrgent, ca_X1_mostUrgent, frX1, kcX1, klX1, exists_eq_right_right, exists_eq_right, exists_eq_left, Nat.lt_irrefl, and_self, implies_true, forall_const]
        exact UI_0
    · exact h.elim
end
section
def ca_X7_placeOf : Nat → Option (Nat × Nat × Tr)
  | 73 => some (2, 7, T_X7_machineOf)
  | 77 => some (3, 7, T_X7_jobAt)
  | _ => none
theorem cao_X7_placeOf (l : Launch) : ∀ k n' ci T', ca_X7_placeOf k = some (n', ci, T') → ∃ nn, nn + 1 ≤ 1 ∧ Site l yX7_placeOf.cls k n' ci nn T' := by
  intro k n' ci T' h
  unfold ca_X7_placeOf at h
  split at h
  · cases h; exact ⟨0, by decide, _, _, _, _, k_X7_machineOf l, Or.inl ⟨_, rfl, FX7_machineOf, KRX7_73⟩⟩
  · cases h; exact ⟨0, by decide, _, _, _, _, k_X7_jobAt l, Or.inl ⟨_, rfl, FX7_jobAt, KRX7_77⟩⟩
  · cases h
def T_X7_placeOf : Tr := fun a σ K => match a with
  | [.inr (.inl (7, 0)), .inl x] => (0 ≤ x ∧ x < 16 ∧ 0 ≤ σ 38 0 (13 + 2 * x) ∧ σ 38 0 (13 + 2 * x) < 4 ∧ plF (fun y => σ 38 0 (49 + y)) (4 * σ 38 0 (13 + 2 * x)) 4 (x / 4) ≠ -6) ∧ K (some (plF (fun y => σ 38 0 (49 + y)) (4 * σ 38 0 (13 + 2 * x)) 4 (x / 4))) σ
  | _ => False
set_option maxHeartbeats 4000000 in
set_option maxRecDepth 20000 in
theorem k_X7_placeOf (l : Launch) : Ct l yX7_placeOf cX7_placeOf 4 (some .int) 1 T_X7_placeOf := by
  refine mk_met (by decide +kernel) hCX7_placeOf lCX7_placeOf frX7_ok cstX7_ok (cao_X7_placeOf l) ?_ ?_
  · intro a σ K h
    unfold T_X7_placeOf at h
    split at h
    · simp [eL]
    · exact h.elim
  · intro a σ K ha hR h
    unfold T_X7_placeOf at h
    split at h
    · rename_i x
      refine ⟨fun _ => none, 75, fun pc I L S σ' k h => (by cases h), ?_⟩
      simp only [wp, stp, drp, entL, eL, lget, lset, okst, cnd, swt, rcv, Kr_int, Kr_bool, Kr_void, List.length_cons, List.length_nil, List.replicate, List.append_nil, List.cons_append, List.nil_append, List.take_succ_cons, List.take_zero, List.drop_succ_cons, List.drop_zero, List.reverse_cons, List.reverse_nil, Option.map_some, Option.map_none, Option.toList_some, Option.toList_none, Nat.reduceAdd, Nat.reduceSub, Nat.reduceLT, Nat.reduceLeDiff, Nat.reduceEqDiff, ↓reduceIte, Nat.add_zero, Nat.zero_add, true_and, and_true, Nat.le_refl, reduceCtorEq, false_implies, true_implies, not_true_eq_false, not_false_eq_true, Int.reduceAdd, Int.reduceSub, Int.reduceMul, Int.reduceLE, Int.reduceLT, Int.reduceEq, Int.reduceNe, Int.reduceNeg, Int.reduceDiv, Int.reduceMod, Bool.false_eq_true, Int.le_refl, and_self, true_or, or_true, inR_l, fv0, fv1, fv2, fv3, nc2, nc4, nc6, nc16, nc25, nc60, nc65, nc80, nc130, nc384, nc390, fp_0_0, fp_0_1, fp_0_2, fp_1_0, fp_1_1, fp_1_2, fp_1_3, fp_1_4, fp_1_5, fp_1_6, fp_1_7, fp_1_8, fp_1_9, fp_1_10, fp_1_11, fp_1_12, fp_1_13, fp_1_14, fp_2_0, fp_2_1, fp_2_2, fp_2_3, fp_3_0, fp_3_1, fp_4_0, fp_4_1, fp_4_2, fp_4_3, fp_4_4, fp_4_5, fp_4_6, fp_4_7, fp_5_0, fp_5_1, fp_5_2, fp_5_3, fp_5_4, fp_5_5, fp_5_6, fp_5_7, fp_6_0, fp_6_1, fp_6_2, fp_6_3, fp_6_4, fp_6_5, fp_6_6, fp_6_7, fp_6_8, fp_6_9, fp_6_10, fp_6_11, fp_6_12, fp_6_13, fp_6_14, fp_6_15, fp_7_0, fp_7_1, fp_7_2, fp_7_3, fp_7_4, fp_7_5, fp_7_6, fp_7_7, fp_7_8, fp_7_9, fp_7_10, fp_7_11, fp_7_12, fp_7_13, fp_7_14, fp_7_15, fp_7_16, fp_7_17, fp_7_18, fp_7_19, fp_7_20, fp_7_21, fp_7_22, fp_7_23, fp_7_24, iz_0_1, iz_0_2, iz_1_8, iz_1_9, iz_1_11, iz_2_1, iz_2_2, iz_2_3, iz_3_1, iz_4_1, iz_4_2, iz_5_0, iz_6_8, iz_6_9, iz_6_13, iz_6_14, iz_6_15, iz_7_2, iz_7_6, iz_7_12, iz_7_20, iz_7_21, iz_7_23, iz_7_24, ak_8, ak_9, ak_10, ak_11, ak_12, ak_13, ak_14, ak_15, ak_16, ak_17, ak_18, ak_19, ak_20, ak_21, ak_22, ak_23, ak_24, ak_25, ak_26, ak_27, ak_28, ak_29, ak_30, ak_31, ak_32, ak_33, ak_34, ak_35, ak_36, ak_37, ak_38, ak_39, ak_40, ak_41, ak_42, ak_43, ak_44, ak_45, ak_46, ak_47, ak_48, ak_49, ak_50, ak_51, ak_52, ak_53, ak_54, ak_55, ak_56, el31, el33, el34, CX7_placeOf, ca_X7_placeOf, frX7, kcX7, klX7, T_X7_machineOf, T_X7_jobAt]
      unfold plF at h
      grind (splits := 60) [inR]
    · exact h.elim
end
section
def ca_X5_nextOnMachine : Nat → Option (Nat × Nat × Tr)
  | 53 => some (2, 5, T_X5_placeOf)
  | 57 => some (3, 5, T_X5_operationAt)
  | _ => none
theorem cao_X5_nextOnMachine (l : Launch) : ∀ k n' ci T', ca_X5_nextOnMachine k = some (n', ci, T') → ∃ nn, nn + 1 ≤ 2 ∧ Site l yX5_nextOnMachine.cls k n' ci nn T' := by
  intro k n' ci T' h
  unfold ca_X5_nextOnMachine at h
  split at h
  · cases h; exact ⟨0, by decide, _, _, _, _, k_X5_placeOf l, Or.inl ⟨_, rfl, FX5_placeOf, KRX5_53⟩⟩
  · cases h; exact ⟨1, by decide, _, _, _, _, k_X5_operationAt l, Or.inl ⟨_, rfl, FX5_operationAt, KRX5_57⟩⟩
  · cases h
def T_X5_nextOnMachine : Tr := fun a σ K => match a with
  | [.inr (.inl (5, i)), .inl x] => (0 ≤ x ∧ x < 16 ∧ 0 ≤ σ 11 i x ∧ σ 11 i x < 4 ∧ σ 13 i (σ 11 i x) ≤ 4 ∧ inR (plF (σ 14 i) (4 * σ 11 i x) (σ 13 i (σ 11 i x)) (x / 4) + 1) ∧ (∀ y, 0 ≤ y → y < σ 13 i (σ 11 i x) → 0 ≤ σ 14 i (4 * σ 11 i x + y) ∧ σ 14 i (4 * σ 11 i x + y) < 4 ∧ σ 10 i (σ 14 i (4 * σ 11 i x + y)) ≤ 4)) ∧ K (some (if plF (σ 14 i) (4 * σ 11 i x) (σ 13 i (σ 11 i x)) (x / 4) = -6 then -6 else if 0 ≤ plF (σ 14 i) (4 * σ 11 i x) (σ 13 i (σ 11 i x)) (x / 4) + 1 ∧ plF (σ 14 i) (4 * σ 11 i x) (σ 13 i (σ 11 i x)) (x / 4) + 1 < σ 13 i (σ 11 i x) then opF (σ 11 i) (σ 10 i (σ 14 i (4 * σ 11 i x + (plF (σ 14 i) (4 * σ 11 i x) (σ 13 i (σ 11 i x)) (x / 4) + 1)))) (σ 14 i (4 * σ 11 i x + (plF (σ 14 i) (4 * σ 11 i x) (σ 13 i (σ 11 i x)) (x / 4) + 1))) (σ 11 i x) else -6)) σ
  | _ => False
set_option maxHeartbeats 4000000 in
set_option maxRecDepth 20000 in
theorem k_X5_nextOnMachine (l : Launch) : Ct l yX5_nextOnMachine cX5_nextOnMachine 3 (some .int) 2 T_X5_nextOnMachine := by
  refine mk_met (by decide +kernel) hCX5_nextOnMachine lCX5_nextOnMachine frX5_ok cstX5_ok (cao_X5_nextOnMachine l) ?_ ?_
  · intro a σ K h
    unfold T_X5_nextOnMachine at h
    split at h
    · simp [eL]
    · exact h.elim
  · intro a σ K ha hR h
    unfold T_X5_nextOnMachine at h
    split at h
    · rename_i i x
      refine ⟨fun _ => none, 60, fun pc I L S σ' k h => (by cases h), ?_⟩
      simp only [wp, stp, drp, entL, eL, lget, lset, okst, cnd, swt, rcv, Kr_int, Kr_bool, Kr_void, List.length_cons, List.length_nil, List.replicate, List.append_nil, List.cons_append, List.nil_append, List.take_succ_cons, List.take_zero, List.drop_succ_cons, List.drop_zero, List.reverse_cons, List.reverse_nil, Option.map_some, Option.map_none, Option.toList_some, Option.toList_none, Nat.reduceAdd, Nat.reduceSub, Nat.reduceLT, Nat.reduceLeDiff, Nat.reduceEqDiff, ↓reduceIte, Nat.add_zero, Nat.zero_add, true_and, and_true, Nat.le_refl, reduceCtorEq, false_implies, true_implies, not_true_eq_false, not_false_eq_true, Int.reduceAdd, Int.reduceSub, Int.reduceMul, Int.reduceLE, Int.reduceLT, Int.reduceEq, Int.reduceNe, Int.reduceNeg, Int.reduceDiv, Int.reduceMod, Bool.false_eq_true, Int.le_refl, and_self, true_or, or_true, inR_l, fv0, fv1, fv2, fv3, nc2, nc4, nc6, nc16, nc25, nc60, nc65, nc80, nc130, nc384, nc390, fp_0_0, fp_0_1, fp_0_2, fp_1_0, fp_1_1, fp_1_2, fp_1_3, fp_1_4, fp_1_5, fp_1_6, fp_1_7, fp_1_8, fp_1_9, fp_1_10, fp_1_11, fp_1_12, fp_1_13, fp_1_14, fp_2_0, fp_2_1, fp_2_2, fp_2_3, fp_3_0, fp_3_1, fp_4_0, fp_4_1, fp_4_2, fp_4_3, fp_4_4, fp_4_5, fp_4_6, fp_4_7, fp_5_0, fp_5_1, fp_5_2, fp_5_3, fp_5_4, fp_5_5, fp_5_6, fp_5_7, fp_6_0, fp_6_1, fp_6_2, fp_6_3, fp_6_4, fp_6_5, fp_6_6, fp_6_7, fp_6_8, fp_6_9, fp_6_10, fp_6_11, fp_6_12, fp_6_13, fp_6_14, fp_6_15, fp_7_0, fp_7_1, fp_7_2, fp_7_3, fp_7_4, fp_7_5, fp_7_6, fp_7_7, fp_7_8, fp_7_9, fp_7_10, fp_7_11, fp_7_12, fp_7_13, fp_7_14, fp_7_15, fp_7_16, fp_7_17, fp_7_18, fp_7_19, fp_7_20, fp_7_21, fp_7_22, fp_7_23, fp_7_24, iz_0_1, iz_0_2, iz_1_8, iz_1_9, iz_1_11, iz_2_1, iz_2_2, iz_2_3, iz_3_1, iz_4_1, iz_4_2, iz_5_0, iz_6_8, iz_6_9, iz_6_13, iz_6_14, iz_6_15, iz_7_2, iz_7_6, iz_7_12, iz_7_20, iz_7_21, iz_7_23, iz_7_24, ak_8, ak_9, ak_10, ak_11, ak_12, ak_13, ak_14, ak_15, ak_16, ak_17, ak_18, ak_19, ak_20, ak_21, ak_22, ak_23, ak_24, ak_25, ak_26, ak_27, ak_28, ak_29, ak_30, ak_31, ak_32, ak_33, ak_34, ak_35, ak_36, ak_37, ak_38, ak_39, ak_40, ak_41, ak_42, ak_43, ak_44, ak_45, ak_46, ak_47, ak_48, ak_49, ak_50, ak_51, ak_52, ak_53, ak_54, ak_55, ak_56, el31, el33, el34, CX5_nextOnMachine, ca_X5_nextOnMachine, frX5, kcX5, klX5, T_X5_placeOf, T_X5_operationAt]
      obtain ⟨⟨p1, p2, p3, p4, p5, p6, p7⟩, h⟩ := h
      refine ⟨⟨p1, p2, p3, p4, p5⟩, fun a => ?_, fun a => ?_⟩
      · rw [if_neg a] at h
        refine ⟨⟨p1, p2⟩, p6, ⟨p3, p4, p5, fun u v => p7 _ u v⟩, h⟩
      · rw [if_pos (Classical.not_not.mp a)] at h
        exact h
    · exact h.elim
end
section
/-- takeOrder, over the first j places -/
def TO (σ σ' : Mem) (i i2 : Nat) (m j : Int) : Prop := (∀ t a x, ¬ (t = 13 ∧ a = i ∧ x = m) → ¬ (t = 14 ∧ a = i ∧ 4 * m ≤ x ∧ x < 4 * m + j) → σ' t a x = σ t a x) ∧ σ' 13 i m = j ∧ (∀ x, 0 ≤ x → x < j → σ' 14 i (4 * m + x) = σ 14 i2 (4 * m + x))
theorem TO_0 {σ : Mem} {i i2 : Nat} {m : Int} : TO σ (up σ 13 i m 0) i i2 m 0 := ⟨fun t a x q _ => by unfold up; rw [if_neg q], by unfold up; rw [if_pos ⟨rfl, rfl, rfl⟩], fun x a b => by omega⟩
theorem TO_s {σ σ' : Mem} {i i2 : Nat} {m j : Int} (h : TO σ σ' i i2 m j) (hi : i2 ≠ i) (h0 : 0 ≤ j) (h4 : j < 4) : TO σ (if σ' 13 i m < 4 then up (up σ' 14 i (4 * m + σ' 13 i m) (σ' 14 i2 (4 * m + j))) 13 i m (σ' 13 i m + 1) else σ') i i2 m (j + 1) := by
  obtain ⟨a1, a2, a3⟩ := h
  rw [a2, if_pos h4]
  have e : σ' 14 i2 (4 * m + j) = σ 14 i2 (4 * m + j) := a1 14 i2 _ (by rintro ⟨q, -⟩; omega) (by rintro ⟨-, q, -⟩; exact hi q)
  refine ⟨fun t a x q r => ?_, ?_, fun x p q => ?_⟩
  · unfold up
    rw [if_neg q, if_neg (by rintro ⟨s1, s2, s3⟩; exact r ⟨s1, s2, by omega, by omega⟩)]
    exact a1 t a x q (by rintro ⟨s1, s2, s3, s4⟩; exact r ⟨s1, s2, s3, by omega⟩)
  · unfold up
    rw [if_pos ⟨rfl, rfl, rfl⟩]
  · unfold up
    rw [if_neg (by rintro ⟨s, -⟩; omega)]
    rcases (show x < j ∨ x = j by omega) with s | rfl
    · rw [if_neg (by rintro ⟨-, -, u⟩; omega)]
      exact a3 x p s
    · rw [if_pos ⟨rfl, rfl, rfl⟩]
      exact e
def ca_X5_takeOrder : Nat → Option (Nat × Nat × Tr)
  | 41 => some (3, 5, T_X5_append)
  | _ => none
theorem cao_X5_takeOrder (l : Launch) : ∀ k n' ci T', ca_X5_takeOrder k = some (n', ci, T') → ∃ nn, nn + 1 ≤ 1 ∧ Site l yX5_takeOrder.cls k n' ci nn T' := by
  intro k n' ci T' h
  unfold ca_X5_takeOrder at h
  split at h
  · cases h; exact ⟨0, by decide, _, _, _, _, k_X5_append l, Or.inl ⟨_, rfl, FX5_append, KRX5_41⟩⟩
  · cases h
def T_X5_takeOrder : Tr := fun a σ K => match a with
  | [.inr (.inl (5, i)), .inr (.inl (5, i2)), .inl m] => (0 ≤ m ∧ m < 4 ∧ i2 ≠ i ∧ 0 ≤ σ 13 i2 m ∧ σ 13 i2 m ≤ 4) ∧ ∀ σ' : Mem, TO σ σ' i i2 m (σ 13 i2 m) → K none σ'
  | _ => False
set_option maxHeartbeats 8000000 in
set_option maxRecDepth 20000 in
theorem k_X5_takeOrder (l : Launch) : Ct l yX5_takeOrder cX5_takeOrder 4 none 1 T_X5_takeOrder := by
  refine mk_met (by decide +kernel) hCX5_takeOrder lCX5_takeOrder frX5_ok cstX5_ok (cao_X5_takeOrder l) ?_ ?_
  · intro a σ K h
    unfold T_X5_takeOrder at h
    split at h
    · simp [eL]
    · exact h.elim
  · intro a σ K ha hR h
    unfold T_X5_takeOrder at h
    split at h
    · rename_i i i2 m
      refine ⟨fun pc => if pc = 9 then some (fun L S σ' k => match L, S with | [some (.inr (.inl c1)), some (.inr (.inl c2)), some (.inl m'), some (.inl j)], [] => (c1 = (5, i) ∧ c2 = (5, i2) ∧ m' = m ∧ 0 ≤ j ∧ j ≤ σ 13 i2 m ∧ TO σ σ' i i2 m j) ∧ k = (4 - j).toNat | _, _ => False) else none, 200, ?_, ?_⟩
      · intro pc I L S σ' k hcut hi
        dsimp only at hcut
        split at hcut
        · rename_i hpc
          subst hpc
          cases hcut
          try dsimp only at hi
          split at hi
          · rename_i c1 c2 m' j
            obtain ⟨hi, rfl⟩ := hi
            obtain ⟨rfl, rfl, rfl, h0, h1, h2⟩ := hi
            obtain ⟨⟨p1, p2, p3, p4, p5⟩, h⟩ := h
            have e1 : σ' 13 i2 m' = σ 13 i2 m' := h2.1 13 i2 _ (by rintro ⟨-, q, -⟩; exact p3 q) (by rintro ⟨q, -⟩; omega)
            have e2 := h2.2.1
            simp only [wp, stp, drp, entL, eL, lget, lset, okst, cnd, swt, rcv, Kr_int, Kr_bool, Kr_void, List.length_cons, List.length_nil, List.replicate, List.append_nil, List.cons_append, List.nil_append, List.take_succ_cons, List.take_zero, List.drop_succ_cons, List.drop_zero, List.reverse_cons, List.reverse_nil, Option.map_some, Option.map_none, Option.toList_some, Option.toList_none, Nat.reduceAdd, Nat.reduceSub, Nat.reduceLT, Nat.reduceLeDiff, Nat.reduceEqDiff, ↓reduceIte, Nat.add_zero, Nat.zero_add, true_and, and_true, Nat.le_refl, reduceCtorEq, false_implies, true_implies, not_true_eq_false, not_false_eq_true, Int.reduceAdd, Int.reduceSub, Int.reduceMul, Int.reduceLE, Int.reduceLT, Int.reduceEq, Int.reduceNe, Int.reduceNeg, Int.reduceDiv, Int.reduceMod, Bool.false_eq_true, Int.le_refl, and_self, true_or, or_true, inR_l, fv0, fv1, fv2, fv3, nc2, nc4, nc6, nc16, nc25, nc60, nc65, nc80, nc130, nc384, nc390, fp_0_0, fp_0_1, fp_0_2, fp_1_0, fp_1_1, fp_1_2, fp_1_3, fp_1_4, fp_1_5, fp_1_6, fp_1_7, fp_1_8, fp_1_9, fp_1_10, fp_1_11, fp_1_12, fp_1_13, fp_1_14, fp_2_0, fp_2_1, fp_2_2, fp_2_3, fp_3_0, fp_3_1, fp_4_0, fp_4_1, fp_4_2, fp_4_3, fp_4_4, fp_4_5, fp_4_6, fp_4_7, fp_5_0, fp_5_1, fp_5_2, fp_5_3, fp_5_4, fp_5_5, fp_5_6, fp_5_7, fp_6_0, fp_6_1, fp_6_2, fp_6_3, fp_6_4, fp_6_5, fp_6_6, fp_6_7, fp_6_8, fp_6_9, fp_6_10, fp_6_11, fp_6_12, fp_6_13, fp_6_14, fp_6_15, fp_7_0, fp_7_1, fp_7_2, fp_7_3, fp_7_4, fp_7_5, fp_7_6, fp_7_7, fp_7_8, fp_7_9, fp_7_10, fp_7_11, fp_7_12, fp_7_13, fp_7_14, fp_7_15, fp_7_16, fp_7_17, fp_7_18, fp_7_19, fp_7_20, fp_7_21, fp_7_22, fp_7_23, fp_7_24, iz_0_1, iz_0_2, iz_1_8, iz_1_9, iz_1_11, iz_2_1, iz_2_2, iz_2_3, iz_3_1, iz_4_1, iz_4_2, iz_5_0, iz_6_8, iz_6_9, iz_6_13, iz_6_14, iz_6_15, iz_7_2, iz_7_6, iz_7_12, iz_7_20, iz_7_21, iz_7_23, iz_7_24, ak_8, ak_9, ak_10, ak_11, ak_12, ak_13, ak_14, ak_15, ak_16, ak_17, ak_18, ak_19, ak_20, ak_21, ak_22, ak_23, ak_24, ak_25, ak_26, ak_27, ak_28, ak_29, ak_30, ak_31, ak_32, ak_33, ak_34, ak_35, ak_36, ak_37, ak_38, ak_39, ak_40, ak_41, ak_42, ak_43, ak_44, ak_45, ak_46, ak_47, ak_48, ak_49, ak_50, ak_51, ak_52, ak_53, ak_54, ak_55, ak_56, el31, el33, el34, CX5_takeOrder, ca_X5_takeOrder, frX5, kcX5, klX5, T_X5_append, exists_eq_right_right, exists_eq_right, exists_eq_left, Nat.lt_irrefl, and_self, implies_true, forall_const]
            refine ⟨⟨p1, p2⟩, fun b => h σ' (by rw [show σ 13 i2 m' = j by omega]; exact h2), fun b => ⟨⟨by omega, by omega⟩, ⟨by omega, by omega⟩, ⟨by omega, by omega⟩, ⟨p1, p2, by omega, by omega⟩, ⟨by omega, by omega⟩, by omega, by omega, by omega, TO_s h2 p3 h0 (by omega)⟩⟩
          · exact hi.elim
        · cases hcut
      · simp only [wp, stp, drp, entL, eL, lget, lset, okst, cnd, swt, rcv, Kr_int, Kr_bool, Kr_void, List.length_cons, List.length_nil, List.replicate, List.append_nil, List.cons_append, List.nil_append, List.take_succ_cons, List.take_zero, List.drop_succ_cons, List.drop_zero, List.reverse_cons, List.reverse_nil, Option.map_some, Option.map_none, Option.toList_some, Option.toList_none, Nat.reduceAdd, Nat.reduceSub, Nat.reduceLT, Nat.reduceLeDiff, Nat.reduceEqDiff, ↓reduceIte, Nat.add_zero, Nat.zero_add, true_and, and_true, Nat.le_refl, reduceCtorEq, false_implies, true_implies, not_true_eq_false, not_false_eq_true, Int.reduceAdd, Int.reduceSub, Int.reduceMul, Int.reduceLE, Int.reduceLT, Int.reduceEq, Int.reduceNe, Int.reduceNeg, Int.reduceDiv, Int.reduceMod, Bool.false_eq_true, Int.le_refl, and_self, true_or, or_true, inR_l, fv0, fv1, fv2, fv3, nc2, nc4, nc6, nc16, nc25, nc60, nc65, nc80, nc130, nc384, nc390, fp_0_0, fp_0_1, fp_0_2, fp_1_0, fp_1_1, fp_1_2, fp_1_3, fp_1_4, fp_1_5, fp_1_6, fp_1_7, fp_1_8, fp_1_9, fp_1_10, fp_1_11, fp_1_12, fp_1_13, fp_1_14, fp_2_0, fp_2_1, fp_2_2, fp_2_3, fp_3_0, fp_3_1, fp_4_0, fp_4_1, fp_4_2, fp_4_3, fp_4_4, fp_4_5, fp_4_6, fp_4_7, fp_5_0, fp_5_1, fp_5_2, fp_5_3, fp_5_4, fp_5_5, fp_5_6, fp_5_7, fp_6_0, fp_6_1, fp_6_2, fp_6_3, fp_6_4, fp_6_5, fp_6_6, fp_6_7, fp_6_8, fp_6_9, fp_6_10, fp_6_11, fp_6_12, fp_6_13, fp_6_14, fp_6_15, fp_7_0, fp_7_1, fp_7_2, fp_7_3, fp_7_4, fp_7_5, fp_7_6, fp_7_7, fp_7_8, fp_7_9, fp_7_10, fp_7_11, fp_7_12, fp_7_13, fp_7_14, fp_7_15, fp_7_16, fp_7_17, fp_7_18, fp_7_19, fp_7_20, fp_7_21, fp_7_22, fp_7_23, fp_7_24, iz_0_1, iz_0_2, iz_1_8, iz_1_9, iz_1_11, iz_2_1, iz_2_2, iz_2_3, iz_3_1, iz_4_1, iz_4_2, iz_5_0, iz_6_8, iz_6_9, iz_6_13, iz_6_14, iz_6_15, iz_7_2, iz_7_6, iz_7_12, iz_7_20, iz_7_21, iz_7_23, iz_7_24, ak_8, ak_9, ak_10, ak_11, ak_12, ak_13, ak_14, ak_15, ak_16, ak_17, ak_18, ak_19, ak_20, ak_21, ak_22, ak_23, ak_24, ak_25, ak_26, ak_27, ak_28, ak_29, ak_30, ak_31, ak_32, ak_33, ak_34, ak_35, ak_36, ak_37, ak_38, ak_39, ak_40, ak_41, ak_42, ak_43, ak_44, ak_45, ak_46, ak_47, ak_48, ak_49, ak_50, ak_51, ak_52, ak_53, ak_54, ak_55, ak_56, el31, el33, el34, CX5_takeOrder, ca_X5_takeOrder, frX5, kcX5, klX5, T_X5_append, exists_eq_right_right, exists_eq_right, exists_eq_left, Nat.lt_irrefl, and_self, implies_true, forall_const]
        obtain ⟨⟨p1, p2, p3, p4, p5⟩, h⟩ := h
        exact ⟨⟨p1, p2⟩, p4, TO_0⟩
    · exact h.elim
end
section
/-- the end of a job, as the plan's net has it -/
def ejV (σ : Mem) (j : Int) : Int := if 0 < σ 10 0 j then σ 21 0 (4 * j + σ 10 0 j - 1) + σ 17 0 (4 * j + σ 10 0 j - 1) else σ 8 0 j
def ca_X6_endOfJob : Nat → Option (Nat × Nat × Tr)
  | 297 => some (2, 1, T_X1_endOf)
  | _ => none
theorem cao_X6_endOfJob (l : Launch) : ∀ k n' ci T', ca_X6_endOfJob k = some (n', ci, T') → ∃ nn, nn + 1 ≤ 1 ∧ Site l yX6_endOfJob.cls k n' ci nn T' := by
  intro k n' ci T' h
  unfold ca_X6_endOfJob at h
  split at h
  · cases h; exact ⟨0, by decide, _, _, _, _, k_X1_endOf l, Or.inl ⟨_, rfl, FX1_endOf, KRX6_297⟩⟩
  · cases h
def T_X6_endOfJob : Tr := fun a σ K => match a with
  | [.inr (.inl (6, 0)), .inl j] => (0 ≤ j ∧ j < 4 ∧ σ 10 0 j ≤ 4 ∧ inR (σ 21 0 (4 * j + σ 10 0 j - 1) + σ 17 0 (4 * j + σ 10 0 j - 1))) ∧ K (some (ejV σ j)) σ
  | _ => False
set_option maxHeartbeats 4000000 in
set_option maxRecDepth 20000 in
theorem k_X6_endOfJob (l : Launch) : Ct l yX6_endOfJob cX6_endOfJob 3 (some .int) 1 T_X6_endOfJob := by
  refine mk_met (by decide +kernel) hCX6_endOfJob lCX6_endOfJob frX6_ok cstX6_ok (cao_X6_endOfJob l) ?_ ?_
  · intro a σ K h
    unfold T_X6_endOfJob at h
    split at h
    · simp [eL]
    · exact h.elim
  · intro a σ K ha hR h
    unfold T_X6_endOfJob at h
    split at h
    · rename_i j
      refine ⟨fun _ => none, 200, fun pc I L S σ' k h => (by cases h), ?_⟩
      simp only [wp, stp, drp, entL, eL, lget, lset, okst, cnd, swt, rcv, Kr_int, Kr_bool, Kr_void, List.length_cons, List.length_nil, List.replicate, List.append_nil, List.cons_append, List.nil_append, List.take_succ_cons, List.take_zero, List.drop_succ_cons, List.drop_zero, List.reverse_cons, List.reverse_nil, Option.map_some, Option.map_none, Option.toList_some, Option.toList_none, Nat.reduceAdd, Nat.reduceSub, Nat.reduceLT, Nat.reduceLeDiff, Nat.reduceEqDiff, ↓reduceIte, Nat.add_zero, Nat.zero_add, true_and, and_true, Nat.le_refl, reduceCtorEq, false_implies, true_implies, not_true_eq_false, not_false_eq_true, Int.reduceAdd, Int.reduceSub, Int.reduceMul, Int.reduceLE, Int.reduceLT, Int.reduceEq, Int.reduceNe, Int.reduceNeg, Int.reduceDiv, Int.reduceMod, Bool.false_eq_true, Int.le_refl, and_self, true_or, or_true, inR_l, fv0, fv1, fv2, fv3, nc2, nc4, nc6, nc16, nc25, nc60, nc65, nc80, nc130, nc384, nc390, fp_0_0, fp_0_1, fp_0_2, fp_1_0, fp_1_1, fp_1_2, fp_1_3, fp_1_4, fp_1_5, fp_1_6, fp_1_7, fp_1_8, fp_1_9, fp_1_10, fp_1_11, fp_1_12, fp_1_13, fp_1_14, fp_2_0, fp_2_1, fp_2_2, fp_2_3, fp_3_0, fp_3_1, fp_4_0, fp_4_1, fp_4_2, fp_4_3, fp_4_4, fp_4_5, fp_4_6, fp_4_7, fp_5_0, fp_5_1, fp_5_2, fp_5_3, fp_5_4, fp_5_5, fp_5_6, fp_5_7, fp_6_0, fp_6_1, fp_6_2, fp_6_3, fp_6_4, fp_6_5, fp_6_6, fp_6_7, fp_6_8, fp_6_9, fp_6_10, fp_6_11, fp_6_12, fp_6_13, fp_6_14, fp_6_15, fp_7_0, fp_7_1, fp_7_2, fp_7_3, fp_7_4, fp_7_5, fp_7_6, fp_7_7, fp_7_8, fp_7_9, fp_7_10, fp_7_11, fp_7_12, fp_7_13, fp_7_14, fp_7_15, fp_7_16, fp_7_17, fp_7_18, fp_7_19, fp_7_20, fp_7_21, fp_7_22, fp_7_23, fp_7_24, iz_0_1, iz_0_2, iz_1_8, iz_1_9, iz_1_11, iz_2_1, iz_2_2, iz_2_3, iz_3_1, iz_4_1, iz_4_2, iz_5_0, iz_6_8, iz_6_9, iz_6_13, iz_6_14, iz_6_15, iz_7_2, iz_7_6, iz_7_12, iz_7_20, iz_7_21, iz_7_23, iz_7_24, ak_8, ak_9, ak_10, ak_11, ak_12, ak_13, ak_14, ak_15, ak_16, ak_17, ak_18, ak_19, ak_20, ak_21, ak_22, ak_23, ak_24, ak_25, ak_26, ak_27, ak_28, ak_29, ak_30, ak_31, ak_32, ak_33, ak_34, ak_35, ak_36, ak_37, ak_38, ak_39, ak_40, ak_41, ak_42, ak_43, ak_44, ak_45, ak_46, ak_47, ak_48, ak_49, ak_50, ak_51, ak_52, ak_53, ak_54, ak_55, ak_56, el31, el33, el34, CX6_endOfJob, ca_X6_endOfJob, frX6, kcX6, klX6, T_X1_endOf]
      unfold ejV at h
      grind (splits := 60) [inR, up]
    · exact h.elim
def ca_X6_lateness : Nat → Option (Nat × Nat × Tr)
  | 176 => some (2, 6, T_X6_endOfJob)
  | _ => none
theorem cao_X6_lateness (l : Launch) : ∀ k n' ci T', ca_X6_lateness k = some (n', ci, T') → ∃ nn, nn + 1 ≤ 2 ∧ Site l yX6_lateness.cls k n' ci nn T' := by
  intro k n' ci T' h
  unfold ca_X6_lateness at h
  split at h
  · cases h; exact ⟨1, by decide, _, _, _, _, k_X6_endOfJob l, Or.inl ⟨_, rfl, FX6_endOfJob, KRX6_176⟩⟩
  · cases h
def T_X6_lateness : Tr := fun a σ K => match a with
  | [.inr (.inl (6, 0)), .inl j] => ((0 ≤ j ∧ j < 4 ∧ σ 10 0 j ≤ 4 ∧ inR (σ 21 0 (4 * j + σ 10 0 j - 1) + σ 17 0 (4 * j + σ 10 0 j - 1))) ∧ inR (ejV σ j - σ 9 0 j)) ∧ K (some (if 0 < ejV σ j - σ 9 0 j then ejV σ j - σ 9 0 j else 0)) σ
  | _ => False
set_option maxHeartbeats 4000000 in
set_option maxRecDepth 20000 in
theorem k_X6_lateness (l : Launch) : Ct l yX6_lateness cX6_lateness 3 (some .int) 2 T_X6_lateness := by
  refine mk_met (by decide +kernel) hCX6_lateness lCX6_lateness frX6_ok cstX6_ok (cao_X6_lateness l) ?_ ?_
  · intro a σ K h
    unfold T_X6_lateness at h
    split at h
    · simp [eL]
    · exact h.elim
  · intro a σ K ha hR h
    unfold T_X6_lateness at h
    split at h
    · rename_i j
      refine ⟨fun _ => none, 200, fun pc I L S σ' k h => (by cases h), ?_⟩
      simp only [wp, stp, drp, entL, eL, lget, lset, okst, cnd, swt, rcv, Kr_int, Kr_bool, Kr_void, List.length_cons, List.length_nil, List.replicate, List.append_nil, List.cons_append, List.nil_append, List.take_succ_cons, List.take_zero, List.drop_succ_cons, List.drop_zero, List.reverse_cons, List.reverse_nil, Option.map_some, Option.map_none, Option.toList_some, Option.toList_none, Nat.reduceAdd, Nat.reduceSub, Nat.reduceLT, Nat.reduceLeDiff, Nat.reduceEqDiff, ↓reduceIte, Nat.add_zero, Nat.zero_add, true_and, and_true, Nat.le_refl, reduceCtorEq, false_implies, true_implies, not_true_eq_false, not_false_eq_true, Int.reduceAdd, Int.reduceSub, Int.reduceMul, Int.reduceLE, Int.reduceLT, Int.reduceEq, Int.reduceNe, Int.reduceNeg, Int.reduceDiv, Int.reduceMod, Bool.false_eq_true, Int.le_refl, and_self, true_or, or_true, inR_l, fv0, fv1, fv2, fv3, nc2, nc4, nc6, nc16, nc25, nc60, nc65, nc80, nc130, nc384, nc390, fp_0_0, fp_0_1, fp_0_2, fp_1_0, fp_1_1, fp_1_2, fp_1_3, fp_1_4, fp_1_5, fp_1_6, fp_1_7, fp_1_8, fp_1_9, fp_1_10, fp_1_11, fp_1_12, fp_1_13, fp_1_14, fp_2_0, fp_2_1, fp_2_2, fp_2_3, fp_3_0, fp_3_1, fp_4_0, fp_4_1, fp_4_2, fp_4_3, fp_4_4, fp_4_5, fp_4_6, fp_4_7, fp_5_0, fp_5_1, fp_5_2, fp_5_3, fp_5_4, fp_5_5, fp_5_6, fp_5_7, fp_6_0, fp_6_1, fp_6_2, fp_6_3, fp_6_4, fp_6_5, fp_6_6, fp_6_7, fp_6_8, fp_6_9, fp_6_10, fp_6_11, fp_6_12, fp_6_13, fp_6_14, fp_6_15, fp_7_0, fp_7_1, fp_7_2, fp_7_3, fp_7_4, fp_7_5, fp_7_6, fp_7_7, fp_7_8, fp_7_9, fp_7_10, fp_7_11, fp_7_12, fp_7_13, fp_7_14, fp_7_15, fp_7_16, fp_7_17, fp_7_18, fp_7_19, fp_7_20, fp_7_21, fp_7_22, fp_7_23, fp_7_24, iz_0_1, iz_0_2, iz_1_8, iz_1_9, iz_1_11, iz_2_1, iz_2_2, iz_2_3, iz_3_1, iz_4_1, iz_4_2, iz_5_0, iz_6_8, iz_6_9, iz_6_13, iz_6_14, iz_6_15, iz_7_2, iz_7_6, iz_7_12, iz_7_20, iz_7_21, iz_7_23, iz_7_24, ak_8, ak_9, ak_10, ak_11, ak_12, ak_13, ak_14, ak_15, ak_16, ak_17, ak_18, ak_19, ak_20, ak_21, ak_22, ak_23, ak_24, ak_25, ak_26, ak_27, ak_28, ak_29, ak_30, ak_31, ak_32, ak_33, ak_34, ak_35, ak_36, ak_37, ak_38, ak_39, ak_40, ak_41, ak_42, ak_43, ak_44, ak_45, ak_46, ak_47, ak_48, ak_49, ak_50, ak_51, ak_52, ak_53, ak_54, ak_55, ak_56, el31, el33, el34, CX6_lateness, ca_X6_lateness, frX6, kcX6, klX6, T_X6_endOfJob]
      grind (splits := 60) [inR, up]
    · exact h.elim
end
section
def ca_X6_sumOfLateness : Nat → Option (Nat × Nat × Tr)
  | 179 => some (2, 6, T_X6_lateness)
  | _ => none
theorem cao_X6_sumOfLateness (l : Launch) : ∀ k n' ci T', ca_X6_sumOfLateness k = some (n', ci, T') → ∃ nn, nn + 1 ≤ 3 ∧ Site l yX6_sumOfLateness.cls k n' ci nn T' := by
  intro k n' ci T' h
  unfold ca_X6_sumOfLateness at h
  split at h
  · cases h; exact ⟨2, by decide, _, _, _, _, k_X6_lateness l, Or.inl ⟨_, rfl, FX6_lateness, KRX6_179⟩⟩
  · cases h
def T_X6_sumOfLateness : Tr := fun a σ K => match a with
  | [.inr (.inl (6, 0))] => (0 ≤ σ 5 0 0 ∧ σ 5 0 0 ≤ 4 ∧ (∀ j, 0 ≤ j → j < σ 5 0 0 → σ 10 0 j ≤ 4 ∧ inR (σ 21 0 (4 * j + σ 10 0 j - 1) + σ 17 0 (4 * j + σ 10 0 j - 1)) ∧ inR (ejV σ j - σ 9 0 j) ∧ ejV σ j - σ 9 0 j ≤ 100000)) ∧ K (some (wF (fun j => if 0 < ejV σ j - σ 9 0 j then ejV σ j - σ 9 0 j else 0) 0 (σ 5 0 0))) σ
  | _ => False
set_option maxHeartbeats 8000000 in
set_option maxRecDepth 20000 in
theorem k_X6_sumOfLateness (l : Launch) : Ct l yX6_sumOfLateness cX6_sumOfLateness 3 (some .int) 3 T_X6_sumOfLateness := by
  refine mk_met (by decide +kernel) hCX6_sumOfLateness lCX6_sumOfLateness frX6_ok cstX6_ok (cao_X6_sumOfLateness l) ?_ ?_
  · intro a σ K h
    unfold T_X6_sumOfLateness at h
    split at h
    · simp [eL]
    · exact h.elim
  · intro a σ K ha hR h
    unfold T_X6_sumOfLateness at h
    split at h
    · refine ⟨fun pc => if pc = 4 then some (fun L S σ' k => match L, S with | [some (.inr (.inl c1)), some (.inl sm), some (.inl j)], [] => (c1 = (6, 0) ∧ 0 ≤ j ∧ j ≤ σ 5 0 0 ∧ sm = wF (fun j => if 0 < ejV σ j - σ 9 0 j then ejV σ j - σ 9 0 j else 0) 0 j ∧ 0 ≤ sm ∧ sm ≤ 100000 * j ∧ σ' = σ) ∧ k = (4 - j).toNat | _, _ => False) else none, 200, ?_, ?_⟩
      · intro pc I L S σ' k hcut hi
        dsimp only at hcut
        split at hcut
        · rename_i hpc
          subst hpc
          cases hcut
          try dsimp only at hi
          split at hi
          · rename_i c1 sm j
            obtain ⟨hi, rfl⟩ := hi
            obtain ⟨rfl, h0, h1, h2, h3, h4, rfl⟩ := hi
            obtain ⟨⟨p0, p1, p2⟩, h⟩ := h
            have e := wF_s (fun j => if 0 < ejV σ' j - σ' 9 0 j then ejV σ' j - σ' 9 0 j else 0) 0 j h0
            simp only [Int.zero_add] at e
            simp only [wp, stp, drp, entL, eL, lget, lset, okst, cnd, swt, rcv, Kr_int, Kr_bool, Kr_void, List.length_cons, List.length_nil, List.replicate, List.append_nil, List.cons_append, List.nil_append, List.take_succ_cons, List.take_zero, List.drop_succ_cons, List.drop_zero, List.reverse_cons, List.reverse_nil, Option.map_some, Option.map_none, Option.toList_some, Option.toList_none, Nat.reduceAdd, Nat.reduceSub, Nat.reduceLT, Nat.reduceLeDiff, Nat.reduceEqDiff, ↓reduceIte, Nat.add_zero, Nat.zero_add, true_and, and_true, Nat.le_refl, reduceCtorEq, false_implies, true_implies, not_true_eq_false, not_false_eq_true, Int.reduceAdd, Int.reduceSub, Int.reduceMul, Int.reduceLE, Int.reduceLT, Int.reduceEq, Int.reduceNe, Int.reduceNeg, Int.reduceDiv, Int.reduceMod, Bool.false_eq_true, Int.le_refl, and_self, true_or, or_true, inR_l, fv0, fv1, fv2, fv3, nc2, nc4, nc6, nc16, nc25, nc60, nc65, nc80, nc130, nc384, nc390, fp_0_0, fp_0_1, fp_0_2, fp_1_0, fp_1_1, fp_1_2, fp_1_3, fp_1_4, fp_1_5, fp_1_6, fp_1_7, fp_1_8, fp_1_9, fp_1_10, fp_1_11, fp_1_12, fp_1_13, fp_1_14, fp_2_0, fp_2_1, fp_2_2, fp_2_3, fp_3_0, fp_3_1, fp_4_0, fp_4_1, fp_4_2, fp_4_3, fp_4_4, fp_4_5, fp_4_6, fp_4_7, fp_5_0, fp_5_1, fp_5_2, fp_5_3, fp_5_4, fp_5_5, fp_5_6, fp_5_7, fp_6_0, fp_6_1, fp_6_2, fp_6_3, fp_6_4, fp_6_5, fp_6_6, fp_6_7, fp_6_8, fp_6_9, fp_6_10, fp_6_11, fp_6_12, fp_6_13, fp_6_14, fp_6_15, fp_7_0, fp_7_1, fp_7_2, fp_7_3, fp_7_4, fp_7_5, fp_7_6, fp_7_7, fp_7_8, fp_7_9, fp_7_10, fp_7_11, fp_7_12, fp_7_13, fp_7_14, fp_7_15, fp_7_16, fp_7_17, fp_7_18, fp_7_19, fp_7_20, fp_7_21, fp_7_22, fp_7_23, fp_7_24, iz_0_1, iz_0_2, iz_1_8, iz_1_9, iz_1_11, iz_2_1, iz_2_2, iz_2_3, iz_3_1, iz_4_1, iz_4_2, iz_5_0, iz_6_8, iz_6_9, iz_6_13, iz_6_14, iz_6_15, iz_7_2, iz_7_6, iz_7_12, iz_7_20, iz_7_21, iz_7_23, iz_7_24, ak_8, ak_9, ak_10, ak_11, ak_12, ak_13, ak_14, ak_15, ak_16, ak_17, ak_18, ak_19, ak_20, ak_21, ak_22, ak_23, ak_24, ak_25, ak_26, ak_27, ak_28, ak_29, ak_30, ak_31, ak_32, ak_33, ak_34, ak_35, ak_36, ak_37, ak_38, ak_39, ak_40, ak_41, ak_42, ak_43, ak_44, ak_45, ak_46, ak_47, ak_48, ak_49, ak_50, ak_51, ak_52, ak_53, ak_54, ak_55, ak_56, el31, el33, el34, CX6_sumOfLateness, ca_X6_sumOfLateness, frX6, kcX6, klX6, T_X6_lateness, exists_eq_right_right, exists_eq_right, exists_eq_left, Nat.lt_irrefl, and_self, implies_true, forall_const]
            refine ⟨fun a => ?_, fun a => ?_⟩
            · have e2 : j = σ' 5 0 0 := by omega
              rw [h2, e2]
              exact h
            · obtain ⟨q1, q2, q3, q4⟩ := p2 j h0 (by omega)
              have hv : 0 ≤ (if 0 < ejV σ' j - σ' 9 0 j then ejV σ' j - σ' 9 0 j else 0) ∧ (if 0 < ejV σ' j - σ' 9 0 j then ejV σ' j - σ' 9 0 j else 0) ≤ 100000 := by split <;> omega
              refine ⟨⟨⟨h0, by omega, q1, q2⟩, q3⟩, ⟨by omega, by omega⟩, ⟨by omega, by omega⟩, by omega, by omega, by omega, ?_, by omega, by omega⟩
              rw [h2, e (by omega)]
          · exact hi.elim
        · cases hcut
      · simp only [wp, stp, drp, entL, eL, lget, lset, okst, cnd, swt, rcv, Kr_int, Kr_bool, Kr_void, List.length_cons, List.length_nil, List.replicate, List.append_nil, List.cons_append, List.nil_append, List.take_succ_cons, List.take_zero, List.drop_succ_cons, List.drop_zero, List.reverse_cons, List.reverse_nil, Option.map_some, Option.map_none, Option.toList_some, Option.toList_none, Nat.reduceAdd, Nat.reduceSub, Nat.reduceLT, Nat.reduceLeDiff, Nat.reduceEqDiff, ↓reduceIte, Nat.add_zero, Nat.zero_add, true_and, and_true, Nat.le_refl, reduceCtorEq, false_implies, true_implies, not_true_eq_false, not_false_eq_true, Int.reduceAdd, Int.reduceSub, Int.reduceMul, Int.reduceLE, Int.reduceLT, Int.reduceEq, Int.reduceNe, Int.reduceNeg, Int.reduceDiv, Int.reduceMod, Bool.false_eq_true, Int.le_refl, and_self, true_or, or_true, inR_l, fv0, fv1, fv2, fv3, nc2, nc4, nc6, nc16, nc25, nc60, nc65, nc80, nc130, nc384, nc390, fp_0_0, fp_0_1, fp_0_2, fp_1_0, fp_1_1, fp_1_2, fp_1_3, fp_1_4, fp_1_5, fp_1_6, fp_1_7, fp_1_8, fp_1_9, fp_1_10, fp_1_11, fp_1_12, fp_1_13, fp_1_14, fp_2_0, fp_2_1, fp_2_2, fp_2_3, fp_3_0, fp_3_1, fp_4_0, fp_4_1, fp_4_2, fp_4_3, fp_4_4, fp_4_5, fp_4_6, fp_4_7, fp_5_0, fp_5_1, fp_5_2, fp_5_3, fp_5_4, fp_5_5, fp_5_6, fp_5_7, fp_6_0, fp_6_1, fp_6_2, fp_6_3, fp_6_4, fp_6_5, fp_6_6, fp_6_7, fp_6_8, fp_6_9, fp_6_10, fp_6_11, fp_6_12, fp_6_13, fp_6_14, fp_6_15, fp_7_0, fp_7_1, fp_7_2, fp_7_3, fp_7_4, fp_7_5, fp_7_6, fp_7_7, fp_7_8, fp_7_9, fp_7_10, fp_7_11, fp_7_12, fp_7_13, fp_7_14, fp_7_15, fp_7_16, fp_7_17, fp_7_18, fp_7_19, fp_7_20, fp_7_21, fp_7_22, fp_7_23, fp_7_24, iz_0_1, iz_0_2, iz_1_8, iz_1_9, iz_1_11, iz_2_1, iz_2_2, iz_2_3, iz_3_1, iz_4_1, iz_4_2, iz_5_0, iz_6_8, iz_6_9, iz_6_13, iz_6_14, iz_6_15, iz_7_2, iz_7_6, iz_7_12, iz_7_20, iz_7_21, iz_7_23, iz_7_24, ak_8, ak_9, ak_10, ak_11, ak_12, ak_13, ak_14, ak_15, ak_16, ak_17, ak_18, ak_19, ak_20, ak_21, ak_22, ak_23, ak_24, ak_25, ak_26, ak_27, ak_28, ak_29, ak_30, ak_31, ak_32, ak_33, ak_34, ak_35, ak_36, ak_37, ak_38, ak_39, ak_40, ak_41, ak_42, ak_43, ak_44, ak_45, ak_46, ak_47, ak_48, ak_49, ak_50, ak_51, ak_52, ak_53, ak_54, ak_55, ak_56, el31, el33, el34, CX6_sumOfLateness, ca_X6_sumOfLateness, frX6, kcX6, klX6, T_X6_lateness, exists_eq_right_right, exists_eq_right, exists_eq_left, Nat.lt_irrefl, and_self, implies_true, forall_const]
        grind (splits := 60) [inR, wF_0]
    · exact h.elim
end
section
/-! nets: routes, what is on the machines, what is decided to go ahead -/
/-- o' goes directly ahead of o: on the route, or as it is decided on the machine -/
def pN (mc ah : Int → Int) (o' o : Int) : Prop := (o % 4 ≠ 0 ∧ o' = o - 1) ∨ (mc o' = mc o ∧ hasB (ah o) (o' / 4))
def NB (st mc du rd on : Int → Int) : Prop := (∀ j, 0 ≤ j → j < 4 → 0 ≤ st j ∧ st j ≤ 4) ∧ (∀ o, vOp st o → 0 ≤ mc o ∧ mc o < 4 ∧ 1 ≤ du o ∧ du o ≤ 20 ∧ 0 ≤ rd o ∧ rd o ≤ 400 ∧ on (4 * mc o + o / 4) = o) ∧ (∀ m k, 0 ≤ m → m < 4 → 0 ≤ k → k < 4 → 0 ≤ on (4 * m + k) → vOp st (on (4 * m + k)) ∧ mc (on (4 * m + k)) = m ∧ on (4 * m + k) / 4 = k)
def NA (st mc on ah : Int → Int) : Prop := ∀ o, vOp st o → 0 ≤ ah o ∧ ah o < 16 ∧ ∀ k, 0 ≤ k → k < 4 → hasB (ah o) k → k ≠ o / 4 ∧ 0 ≤ on (4 * mc o + k)
theorem NB_16 {st mc du rd on : Int → Int} (h : NB st mc du rd on) {m k : Int} (h0 : 0 ≤ m) (h1 : m < 4) (h2 : 0 ≤ k) (h3 : k < 4) : on (4 * m + k) < 16 := by
  rcases Int.lt_or_le (on (4 * m + k)) 0 with q | q
  · omega
  · exact (h.2.2 m k h0 h1 h2 h3 q).1.2.1
theorem NB_inj {st mc du rd on : Int → Int} (h : NB st mc du rd on) {m : Int} (h0 : 0 ≤ m) (h1 : m < 4) : ∀ k k2, 0 ≤ k → k < 4 → 0 ≤ k2 → k2 < 4 → 0 ≤ on (4 * m + k) → on (4 * m + k) = on (4 * m + k2) → k = k2 := by
  intro k k2 a b c d e f
  have h2 := (h.2.2 m k h0 h1 a b e).2.2
  have h3 := (h.2.2 m k2 h0 h1 c d (by omega)).2.2
  omega
theorem vOp_j {st : Int → Int} {o : Int} (h : vOp st o) : 0 ≤ o / 4 ∧ o / 4 < 4 ∧ 0 ≤ o % 4 ∧ o % 4 < 4 := by
  have h1 := h.1
  have h2 := h.2.1
  omega
/-- the head's, the tail's equation at an operation -/
def hEq (V : Int → Prop) (P : Int → Int → Prop) (d r h : Int → Int) (o x : Int) : Prop := r o ≤ x ∧ (∀ o', V o' → P o' o → h o' + d o' ≤ x) ∧ (x = r o ∨ ∃ o', V o' ∧ P o' o ∧ x = h o' + d o')
def tEq (V : Int → Prop) (P : Int → Int → Prop) (d t : Int → Int) (o x : Int) : Prop := 0 ≤ x ∧ (∀ o', V o' → P o o' → d o' + t o' ≤ x) ∧ (x = 0 ∨ ∃ o', V o' ∧ P o o' ∧ x = d o' + t o')
theorem hEq_head {V : Int → Prop} {P : Int → Int → Prop} {d r h : Int → Int} (H : ∀ o, V o → hEq V P d r h o (h o)) : IsHead V P d r h := fun o ho => H o ho
theorem tEq_tail {V : Int → Prop} {P : Int → Int → Prop} {d t : Int → Int} (H : ∀ o, V o → tEq V P d t o (t o)) : IsTail V P d t := fun o ho => H o ho
theorem hEq_congr {V : Int → Prop} {P : Int → Int → Prop} {d r h h' : Int → Int} {o x : Int} (H : hEq V P d r h o x) (hh : ∀ o', V o' → P o' o → h' o' = h o') : hEq V P d r h' o x := by
  obtain ⟨a1, a2, a3⟩ := H
  refine ⟨a1, fun o' v p => by rw [hh o' v p]; exact a2 o' v p, ?_⟩
  rcases a3 with a3 | ⟨o', v, p, a3⟩
  · exact Or.inl a3
  · exact Or.inr ⟨o', v, p, by rw [hh o' v p]; exact a3⟩
theorem tEq_congr {V : Int → Prop} {P : Int → Int → Prop} {d h h' : Int → Int} {o x : Int} (H : tEq V P d h o x) (hh : ∀ o', V o' → P o o' → h' o' = h o') : tEq V P d h' o x := by
  obtain ⟨a1, a2, a3⟩ := H
  refine ⟨a1, fun o' v p => by rw [hh o' v p]; exact a2 o' v p, ?_⟩
  rcases a3 with a3 | ⟨o', v, p, a3⟩
  · exact Or.inl a3
  · exact Or.inr ⟨o', v, p, by rw [hh o' v p]; exact a3⟩
theorem HI_eq {σ : Mem} {n : Nat} {o r : Int} (hB : NB (σ 15 n) (σ 16 n) (σ 17 n) (σ 18 n) (σ 19 n)) (hA : NA (σ 15 n) (σ 16 n) (σ 19 n) (σ 20 n)) (ho : vOp (σ 15 n) o) (h : HI σ n o r 4) : hEq (vOp (σ 15 n)) (pN (σ 16 n) (σ 20 n)) (σ 17 n) (σ 18 n) (σ 21 n) o r := by
  obtain ⟨a1, a2, a3, a4⟩ := h
  obtain ⟨m0, m1, -, -, -, -, hon⟩ := hB.2.1 o ho
  have hj := vOp_j ho
  refine ⟨a1, fun o' v p => ?_, ?_⟩
  · rcases p with ⟨p1, rfl⟩ | ⟨p1, p2⟩
    · exact a2 p1
    · have hj' := vOp_j v
      obtain ⟨-, -, -, -, -, -, hon'⟩ := hB.2.1 o' v
      have := a3 (o' / 4) hj'.1 hj'.2.1 p2
      unfold eH oN at this
      rw [← p1, hon'] at this
      exact this
  · rcases a4 with a4 | ⟨q, a4⟩ | ⟨k, k0, k1, k2, a4⟩
    · exact Or.inl a4
    · refine Or.inr ⟨o - 1, ⟨by omega, by have := ho.2.1; omega, ?_⟩, Or.inl ⟨q, rfl⟩, a4⟩
      have h3 := ho.2.2
      have e : (o - 1) / 4 = o / 4 := by omega
      rw [e]
      omega
    · obtain ⟨q1, q2⟩ := (hA o ho).2.2 k k0 k1 k2
      obtain ⟨b1, b2, b3⟩ := hB.2.2 (σ 16 n o) k m0 m1 k0 k1 q2
      refine Or.inr ⟨σ 19 n (4 * σ 16 n o + k), b1, Or.inr ⟨b2, by rw [b3]; exact k2⟩, a4⟩
theorem TI_eq {σ : Mem} {n : Nat} {o r : Int} (hB : NB (σ 15 n) (σ 16 n) (σ 17 n) (σ 18 n) (σ 19 n)) (ho : vOp (σ 15 n) o) (h : TI σ n o r 4) : tEq (vOp (σ 15 n)) (pN (σ 16 n) (σ 20 n)) (σ 17 n) (σ 22 n) o r := by
  obtain ⟨a1, a2, a3, a4⟩ := h
  obtain ⟨m0, m1, -, -, -, -, hon⟩ := hB.2.1 o ho
  have hj := vOp_j ho
  refine ⟨a1, fun o' v p => ?_, ?_⟩
  · rcases p with ⟨p1, p2⟩ | ⟨p1, p2⟩
    · have e : o' = o + 1 := by omega
      subst e
      have h3 := v.2.2
      have e : (o + 1) / 4 = o / 4 := by omega
      rw [e] at h3
      exact a2 (by omega)
    · have hj' := vOp_j v
      obtain ⟨-, -, -, -, -, -, hon'⟩ := hB.2.1 o' v
      have e : oN σ n o (o' / 4) = o' := by
        unfold oN
        rw [p1, hon']
      have := a3 (o' / 4) hj'.1 hj'.2.1 (by rw [e]; exact v.1) (by rw [e]; exact p2)
      unfold tE at this
      rw [e] at this
      exact this
  · rcases a4 with a4 | ⟨q, a4⟩ | ⟨k, k0, k1, k2, k3, a4⟩
    · exact Or.inl a4
    · refine Or.inr ⟨o + 1, ⟨by have := ho.1; omega, by have := ho.2.1; have := hB.1 (o / 4) hj.1 hj.2.1; omega, ?_⟩, Or.inl ⟨by have := hB.1 (o / 4) hj.1 hj.2.1; omega, by omega⟩, a4⟩
      have h4 := hB.1 (o / 4) hj.1 hj.2.1
      have e : (o + 1) / 4 = o / 4 := by omega
      rw [e]
      omega
    · obtain ⟨b1, b2, b3⟩ := hB.2.2 (σ 16 n o) k m0 m1 k0 k1 k2
      exact Or.inr ⟨oN σ n o k, b1, Or.inr ⟨b2.symm, k3⟩, a4⟩
/-- what is sorted: the first ss j operations of each job; heads, their equations -/
def SI (st mc du rd on ah hd so ss sn : Int → Int) (s : Int) : Prop := (∀ j, 0 ≤ j → j < 4 → 0 ≤ ss j ∧ ss j ≤ st j) ∧ (∀ m, 0 ≤ m → m < 4 → 0 ≤ sn m ∧ sn m < 16) ∧ (∀ m k, 0 ≤ m → m < 4 → 0 ≤ k → k < 4 → (hasB (sn m) k ↔ vOp ss (on (4 * m + k)))) ∧ s = ss 0 + ss 1 + ss 2 + ss 3 ∧ (∀ x, 0 ≤ x → x < s → vOp ss (so x)) ∧ (∀ o, vOp ss o → ∃ x, 0 ≤ x ∧ x < s ∧ so x = o) ∧ (∀ x y, 0 ≤ x → x < s → 0 ≤ y → y < s → so x = so y → x = y) ∧ (∀ o o', vOp ss o → vOp st o' → pN mc ah o' o → vOp ss o') ∧ (∀ x y, 0 ≤ x → x < s → 0 ≤ y → y < s → pN mc ah (so y) (so x) → y < x) ∧ (∀ o, vOp ss o → hEq (vOp st) (pN mc ah) du rd hd o (hd o)) ∧ (∀ x, 0 ≤ x → x < s → 0 ≤ hd (so x) ∧ hd (so x) ≤ 400 + 20 * x)
theorem SI_v {st mc du rd on ah hd so ss sn : Int → Int} {s : Int} (h : SI st mc du rd on ah hd so ss sn s) {o : Int} (ho : vOp ss o) : vOp st o := by
  have hj := vOp_j ho
  have := h.1 (o / 4) hj.1 hj.2.1
  exact ⟨ho.1, ho.2.1, by have := ho.2.2; omega⟩
theorem SI_16 {st mc du rd on ah hd so ss sn : Int → Int} {s : Int} (hB : NB st mc du rd on) (h : SI st mc du rd on ah hd so ss sn s) : 0 ≤ s ∧ s ≤ 16 ∧ s ≤ st 0 + st 1 + st 2 + st 3 := by
  have e := h.2.2.2.1
  have a0 := h.1 0 (by omega) (by omega)
  have a1 := h.1 1 (by omega) (by omega)
  have a2 := h.1 2 (by omega) (by omega)
  have a3 := h.1 3 (by omega) (by omega)
  have b0 := hB.1 0 (by omega) (by omega)
  have b1 := hB.1 1 (by omega) (by omega)
  have b2 := hB.1 2 (by omega) (by omega)
  have b3 := hB.1 3 (by omega) (by omega)
  omega
theorem SI_hd {st mc du rd on ah hd so ss sn : Int → Int} {s : Int} (hB : NB st mc du rd on) (h : SI st mc du rd on ah hd so ss sn s) {o : Int} (ho : vOp ss o) : 0 ≤ hd o ∧ hd o ≤ 380 + 20 * s := by
  obtain ⟨x, x0, x1, rfl⟩ := h.2.2.2.2.2.1 o ho
  have := h.2.2.2.2.2.2.2.2.2.2 x x0 x1
  omega
/-- nothing goes on at a job -/
def bkd (st mc on ah ss : Int → Int) (j : Int) : Prop := ss j = st j ∨ ∃ k, 0 ≤ k ∧ k < 4 ∧ hasB (ah (4 * j + ss j)) k ∧ ¬ vOp ss (on (4 * mc (4 * j + ss j) + k))
theorem SI_bk {st mc du rd on ah hd so ss sn : Int → Int} {s : Int} (hB : NB st mc du rd on) (hA : NA st mc on ah) (h : SI st mc du rd on ah hd so ss sn s) {j : Int} (j0 : 0 ≤ j) (j1 : j < 4) (hs : ss j < st j) (hb : ¬ band (ah (4 * j + ss j)) (bxor (sn (mc (4 * j + ss j))) (-1)) = 0) : bkd st mc on ah ss j := by
  have hss := h.1 j j0 j1
  have hst := hB.1 j j0 j1
  have hv : vOp st (4 * j + ss j) := ⟨by omega, by omega, by rw [show (4 * j + ss j) / 4 = j by omega]; omega⟩
  obtain ⟨m0, m1, -⟩ := hB.2.1 _ hv
  obtain ⟨a0, a1, a2⟩ := hA _ hv
  obtain ⟨n0, n1⟩ := h.2.1 _ m0 m1
  rw [bit_sub a0 a1 n0 n1] at hb
  obtain ⟨k, hk⟩ := Classical.not_forall.mp hb
  have hk' : 0 ≤ k ∧ k < 4 ∧ hasB (ah (4 * j + ss j)) k ∧ ¬ hasB (sn (mc (4 * j + ss j))) k := by
    refine ⟨?_, ?_, ?_, ?_⟩
    · exact Classical.byContradiction fun q => hk (fun a => absurd a q)
    · exact Classical.byContradiction fun q => hk (fun _ a => absurd a q)
    · exact Classical.byContradiction fun q => hk (fun _ _ a => absurd a q)
    · exact fun q => hk (fun _ _ _ => q)
  obtain ⟨k0, k1, k2, k3⟩ := hk'
  exact Or.inr ⟨k, k0, k1, k2, fun q => k3 ((h.2.2.1 _ k m0 m1 k0 k1).mpr q)⟩
theorem SI_full {st mc du rd on ah hd so ss sn : Int → Int} {s : Int} (hB : NB st mc du rd on) (h : SI st mc du rd on ah hd so ss sn s) (hs : st 0 + st 1 + st 2 + st 3 ≤ s) {j : Int} (j0 : 0 ≤ j) (j1 : j < 4) : ss j = st j := by
  have e := h.2.2.2.1
  have a0 := h.1 0 (by omega) (by omega)
  have a1 := h.1 1 (by omega) (by omega)
  have a2 := h.1 2 (by omega) (by omega)
  have a3 := h.1 3 (by omega) (by omega)
  rcases (show j = 0 ∨ j = 1 ∨ j = 2 ∨ j = 3 by omega) with rfl | rfl | rfl | rfl <;> omega
theorem SI_16e {st mc du rd on ah hd so ss sn : Int → Int} {s : Int} (hB : NB st mc du rd on) (h : SI st mc du rd on ah hd so ss sn s) (hs : 16 ≤ s) {j : Int} (j0 : 0 ≤ j) (j1 : j < 4) : ss j = st j := by
  have b0 := hB.1 0 (by omega) (by omega)
  have b1 := hB.1 1 (by omega) (by omega)
  have b2 := hB.1 2 (by omega) (by omega)
  have b3 := hB.1 3 (by omega) (by omega)
  exact SI_full hB h (by omega) j0 j1
/-- there is no way round where heads are found; where nothing goes on, there is one -/
def NoSol (st mc ah : Int → Int) : Prop := ∃ U : Int → Prop, (∃ o, U o) ∧ (∀ o, U o → vOp st o) ∧ ∀ o, U o → ∃ o', U o' ∧ pN mc ah o' o
theorem SI_stuck {st mc du rd on ah hd so ss sn : Int → Int} {s : Int} (hB : NB st mc du rd on) (hA : NA st mc on ah) (h : SI st mc du rd on ah hd so ss sn s) (hb : ∀ j, 0 ≤ j → j < 4 → bkd st mc on ah ss j) (hs : s < st 0 + st 1 + st 2 + st 3) : NoSol st mc ah := by
  refine ⟨fun o => vOp st o ∧ ¬ vOp ss o, ?_, fun o u => u.1, ?_⟩
  · have e := h.2.2.2.1
    have : ∃ j, 0 ≤ j ∧ j < 4 ∧ ss j < st j := by
      rcases (show ss 0 < st 0 ∨ ss 1 < st 1 ∨ ss 2 < st 2 ∨ ss 3 < st 3 by omega) with q | q | q | q
      · exact ⟨0, by omega, by omega, q⟩
      · exact ⟨1, by omega, by omega, q⟩
      · exact ⟨2, by omega, by omega, q⟩
      · exact ⟨3, by omega, by omega, q⟩
    obtain ⟨j, j0, j1, q⟩ := this
    have hss := h.1 j j0 j1
    have hst := hB.1 j j0 j1
    have e1 : (4 * j + ss j) / 4 = j := by omega
    have e2 : (4 * j + ss j) % 4 = ss j := by omega
    refine ⟨4 * j + ss j, ⟨by omega, by omega, by rw [e1, e2]; exact q⟩, fun v => ?_⟩
    have := v.2.2
    rw [e1, e2] at this
    omega
  · intro o ⟨v, nv⟩
    have hj := vOp_j v
    have hss := h.1 (o / 4) hj.1 hj.2.1
    have hst := hB.1 (o / 4) hj.1 hj.2.1
    have hle : ss (o / 4) ≤ o % 4 := by
      rcases Int.lt_or_le (o % 4) (ss (o / 4)) with q | q
      · exact absurd ⟨v.1, v.2.1, q⟩ nv
      · exact q
    have v3 := v.2.2
    have v1 := v.1
    have v2 := v.2.1
    by_cases hq : o % 4 = ss (o / 4)
    · rcases hb (o / 4) hj.1 hj.2.1 with q | ⟨k, k0, k1, k2, k3⟩
      · omega
      · have e : 4 * (o / 4) + ss (o / 4) = o := by omega
        rw [e] at k2 k3
        obtain ⟨m0, m1, -⟩ := hB.2.1 o v
        obtain ⟨q1, q2⟩ := (hA o v).2.2 k k0 k1 k2
        obtain ⟨b1, b2, b3⟩ := hB.2.2 (mc o) k m0 m1 k0 k1 q2
        exact ⟨on (4 * mc o + k), ⟨b1, k3⟩, Or.inr ⟨b2, by rw [b3]; exact k2⟩⟩
    · have e1 : (o - 1) / 4 = o / 4 := by omega
      have e2 : (o - 1) % 4 = o % 4 - 1 := by omega
      refine ⟨o - 1, ⟨⟨by omega, by omega, by rw [e1, e2]; omega⟩, fun w => ?_⟩, Or.inl ⟨by omega, rfl⟩⟩
      have := w.2.2
      rw [e1, e2] at this
      omega
theorem NoSol.no {st mc du rd on ah h : Int → Int} {P : Int → Int → Prop} (hB : NB st mc du rd on) (hN : NoSol st mc ah) (hP : ∀ o' o, vOp st o' → vOp st o → pN mc ah o' o → P o' o) (hh : IsHead (vOp st) P du rd h) : False := by
  obtain ⟨U, ⟨o, ho⟩, hU, hp⟩ := hN
  refine head_none (V := vOp st) (U := U) (P := P) (d := du) (r := rd) (h := h) (fun o v => (hB.2.1 o v).2.2.1) (fun o v => (hB.2.1 o v).2.2.2.2.1) hU (fun o u => ?_) hh o ho
  obtain ⟨o', u', p⟩ := hp o u
  exact ⟨o', u', hP o' o (hU o' u') (hU o u) p⟩
end
section
/-- one more is sorted -/
theorem SI_add {st mc du rd on ah hd so ss sn : Int → Int} {s : Int} (hB : NB st mc du rd on) (hA : NA st mc on ah) (h : SI st mc du rd on ah hd so ss sn s) {j o r : Int} (j0 : 0 ≤ j) (j1 : j < 4) (ho : o = 4 * j + ss j) (hs : ss j < st j) (hb : band (ah o) (bxor (sn (mc o)) (-1)) = 0) (hr : hEq (vOp st) (pN mc ah) du rd hd o r) : SI st mc du rd on ah (fun x => if x = o then r else hd x) (fun x => if x = s then o else so x) (fun x => if x = j then ss j + 1 else ss x) (fun x => if x = mc o then bor (sn (mc o)) (bshl 1 j) else sn x) (s + 1) := by
  have hh := h
  obtain ⟨a1, a2, a3, a4, a5, a6, a7, a8, a9, a10, a11⟩ := h
  have hss := a1 j j0 j1
  have hst := hB.1 j j0 j1
  have oj : o / 4 = j := by omega
  have om : o % 4 = ss j := by omega
  have hv : vOp st o := ⟨by omega, by omega, by rw [oj]; omega⟩
  obtain ⟨m0, m1, d1, d2, r0, r4, hon⟩ := hB.2.1 o hv
  obtain ⟨p0, p1, p2⟩ := hA o hv
  obtain ⟨n0, n1⟩ := a2 _ m0 m1
  rw [bit_sub p0 p1 n0 n1] at hb
  have hno : ¬ vOp ss o := by
    intro q
    have := q.2.2
    rw [oj, om] at this
    omega
  have V' : ∀ x, vOp (fun x => if x = j then ss j + 1 else ss x) x ↔ vOp ss x ∨ x = o := by
    intro x
    unfold vOp
    by_cases q : x / 4 = j
    · simp only [q, if_true]
      omega
    · simp only [q, if_false]
      omega
  have cl : ∀ o', vOp st o' → pN mc ah o' o → vOp ss o' := by
    intro o' v p
    rcases p with ⟨q, rfl⟩ | ⟨q1, q2⟩
    · refine ⟨by omega, by omega, ?_⟩
      rw [show (o - 1) / 4 = j by omega]
      omega
    · have hj' := vOp_j v
      have e := (hB.2.1 o' v).2.2.2.2.2.2
      have := (a3 (mc o) (o' / 4) m0 m1 hj'.1 hj'.2.1).mp (hb _ hj'.1 hj'.2.1 q2)
      rw [← q1, e] at this
      exact this
  have s16 := SI_16 hB hh
  have nself : ¬ pN mc ah o o := by
    rintro (⟨q, q2⟩ | ⟨q, q2⟩)
    · omega
    · exact (p2 (o / 4) (by omega) (by omega) q2).1 rfl
  refine ⟨fun i i0 i1 => ?_, fun m q0 q1 => ?_, fun m k q0 q1 k0 k1 => ?_, ?_, fun x x0 x1 => ?_, fun x v => ?_, fun x y x0 x1 y0 y1 e => ?_, fun x x' v v' p => ?_, fun x y x0 x1 y0 y1 p => ?_, fun x v => ?_, fun x x0 x1 => ?_⟩
  · dsimp only
    have := a1 i i0 i1
    split
    · rename_i q
      subst q
      omega
    · exact this
  · dsimp only
    split
    · exact bit_or_r n0 n1 j0 j1
    · exact a2 m q0 q1
  · rw [V']
    dsimp only
    by_cases q : m = mc o
    · rw [if_pos q, bit_or n0 n1 j0 j1 k0 k1, q, a3 (mc o) k m0 m1 k0 k1]
      constructor
      · rintro (u | u)
        · exact Or.inl u
        · right
          rw [u, ← oj, hon]
      · rintro (u | u)
        · exact Or.inl u
        · right
          have := (hB.2.2 (mc o) k m0 m1 k0 k1 (by rw [u]; exact hv.1)).2.2
          rw [u] at this
          omega
    · rw [if_neg q, a3 m k q0 q1 k0 k1]
      constructor
      · exact Or.inl
      · rintro (u | u)
        · exact u
        · have := (hB.2.2 m k q0 q1 k0 k1 (by rw [u]; exact hv.1)).2.1
          rw [u] at this
          exact absurd this.symm q
  · dsimp only
    rcases (show j = 0 ∨ j = 1 ∨ j = 2 ∨ j = 3 by omega) with q | q | q | q <;> subst q <;> simp only [if_true, Int.reduceEq, if_false] <;> omega
  · rw [V']
    dsimp only
    split
    · exact Or.inr rfl
    · exact Or.inl (a5 x x0 (by omega))
  · rw [V'] at v
    rcases v with v | v
    · obtain ⟨y, y0, y1, e⟩ := a6 x v
      exact ⟨y, y0, by omega, by dsimp only; rw [if_neg (by omega)]; exact e⟩
    · exact ⟨s, by omega, by omega, by dsimp only; rw [if_pos rfl]; exact v.symm⟩
  · dsimp only at e
    by_cases q : x = s
    · by_cases q2 : y = s
      · omega
      · rw [if_pos q, if_neg q2] at e
        exact absurd (e ▸ a5 y y0 (by omega)) hno
    · by_cases q2 : y = s
      · rw [if_neg q, if_pos q2] at e
        exact absurd (e ▸ a5 x x0 (by omega)) hno
      · rw [if_neg q, if_neg q2] at e
        exact a7 x y x0 (by omega) y0 (by omega) e
  · rw [V'] at v ⊢
    rcases v with v | v
    · exact Or.inl (a8 x x' v v' p)
    · subst v
      exact Or.inl (cl x' v' p)
  · dsimp only at p
    by_cases q : x = s
    · by_cases q2 : y = s
      · rw [if_pos q, if_pos q2] at p
        exact absurd p nself
      · omega
    · by_cases q2 : y = s
      · rw [if_neg q, if_pos q2] at p
        exact absurd (a8 _ _ (a5 x x0 (by omega)) hv p) hno
      · rw [if_neg q, if_neg q2] at p
        exact a9 x y x0 (by omega) y0 (by omega) p
  · rw [V'] at v
    rcases v with v | v
    · have hne : x ≠ o := fun q => hno (q ▸ v)
      show hEq _ _ _ _ _ x (if x = o then r else hd x)
      rw [if_neg hne]
      refine hEq_congr (a10 x v) (fun o' v' p' => ?_)
      exact if_neg (fun q : o' = o => hno (q ▸ a8 x o' v v' p'))
    · rw [v]
      show hEq _ _ _ _ _ o (if o = o then r else hd o)
      rw [if_pos rfl]
      refine hEq_congr hr (fun o' v' p' => ?_)
      exact if_neg (fun q : o' = o => hno (q ▸ cl o' v' p'))
  · dsimp only
    by_cases q : x = s
    · rw [if_pos q, if_pos rfl]
      obtain ⟨b1, b2, b3⟩ := hr
      refine ⟨by omega, ?_⟩
      rcases b3 with b3 | ⟨o', v', p', b3⟩
      · omega
      · have := SI_hd hB hh (cl o' v' p')
        have := (hB.2.1 o' v').2.2.2.1
        omega
    · rw [if_neg q]
      have := a5 x x0 (by omega)
      have hne : so x ≠ o := fun e => hno (e ▸ this)
      rw [if_neg hne]
      exact a11 x x0 (by omega)
theorem SI_zero {st mc du rd on ah hd so ss sn : Int → Int} (hB : NB st mc du rd on) (h : ∀ j, 0 ≤ j → j < 4 → ss j = 0) (h2 : ∀ j, 0 ≤ j → j < 4 → sn j = 0) : SI st mc du rd on ah hd so ss sn 0 := by
  have nv : ∀ o, ¬ vOp ss o := by
    intro o v
    have hj := vOp_j v
    have := v.2.2
    rw [h _ hj.1 hj.2.1] at this
    omega
  refine ⟨fun j j0 j1 => ?_, fun m m0 m1 => ?_, fun m k m0 m1 k0 k1 => ?_, ?_, fun x x0 x1 => by omega, fun o v => absurd v (nv o), fun x y x0 x1 => by omega, fun o o' v => absurd v (nv o), fun x y x0 x1 => by omega, fun o v => absurd v (nv o), fun x x0 x1 => by omega⟩
  · rw [h j j0 j1]
    have := hB.1 j j0 j1
    omega
  · rw [h2 m m0 m1]
    omega
  · rw [h2 m m0 m1]
    exact ⟨fun q => absurd q (bit_0 k0 k1), fun q => absurd q (nv _)⟩
  · rw [h 0 (by omega) (by omega), h 1 (by omega) (by omega), h 2 (by omega) (by omega), h 3 (by omega) (by omega)]
    rfl
/-- tails, from the last sorted one on down to behind i -/
def TV (st mc du rd ah hd tl so : Int → Int) (s L i : Int) : Prop := (∀ x, i < x → x < s → tEq (vOp st) (pN mc ah) du tl (so x) (tl (so x)) ∧ 0 ≤ tl (so x) ∧ tl (so x) ≤ 20 * (s - 1 - x)) ∧ 0 ≤ L ∧ L ≤ 1100 ∧ (∀ x, i < x → x < s → hd (so x) + du (so x) + tl (so x) ≤ L) ∧ (L = 0 ∨ ∃ x, i < x ∧ x < s ∧ hd (so x) + du (so x) + tl (so x) = L)
theorem TV_0 {st mc du rd ah hd tl so : Int → Int} {s : Int} : TV st mc du rd ah hd tl so s 0 (s - 1) := ⟨fun x x0 x1 => by omega, by omega, by omega, fun x x0 x1 => by omega, Or.inl rfl⟩
theorem TV_suc {st mc du rd on ah hd tl so ss sn : Int → Int} {s L i : Int} (hB : NB st mc du rd on) (h : SI st mc du rd on ah hd so ss sn s) (hs : st 0 + st 1 + st 2 + st 3 ≤ s) (ht : TV st mc du rd ah hd tl so s L i) (h0 : 0 ≤ i) (h1 : i < s) {o' : Int} (v : vOp st o') (p : pN mc ah (so i) o') : ∃ x, i < x ∧ x < s ∧ so x = o' := by
  have hj := vOp_j v
  have hf := SI_full hB h hs hj.1 hj.2.1
  have v' : vOp ss o' := ⟨v.1, v.2.1, by rw [hf]; exact v.2.2⟩
  obtain ⟨x, x0, x1, rfl⟩ := h.2.2.2.2.2.1 o' v'
  exact ⟨x, h.2.2.2.2.2.2.2.2.1 x i x0 x1 h0 h1 p, x1, rfl⟩
theorem TV_add {st mc du rd on ah hd tl so ss sn : Int → Int} {s L i r L' : Int} (hB : NB st mc du rd on) (h : SI st mc du rd on ah hd so ss sn s) (hs : st 0 + st 1 + st 2 + st 3 ≤ s) (ht : TV st mc du rd ah hd tl so s L i) (h0 : 0 ≤ i) (h1 : i < s) (hr : tEq (vOp st) (pN mc ah) du tl (so i) r) (hL : L' = if hd (so i) + du (so i) + r ≤ L then L else hd (so i) + du (so i) + r) : TV st mc du rd ah hd (fun x => if x = so i then r else tl x) so s L' (i - 1) := by
  have hh := h
  obtain ⟨a1, a2, a3, a4, a5, a6, a7, a8, a9, a10, a11⟩ := h
  have hrr := hr
  obtain ⟨r0, r1, r2⟩ := hr
  have hvi := SI_v hh (a5 i h0 h1)
  have hdb := a11 i h0 h1
  have hdu := (hB.2.1 _ hvi).2.2
  have s16 := SI_16 hB hh
  have rb : r ≤ 20 * (s - 1 - i) := by
    rcases r2 with r2 | ⟨o', v', p', r2⟩
    · omega
    · obtain ⟨x, x0, x1, rfl⟩ := TV_suc hB hh hs ht h0 h1 v' p'
      have := (ht.1 x x0 x1).2.2
      have := (hB.2.1 _ v').2.2.2.1
      omega
  have hne : ∀ x, i < x → x < s → so x ≠ so i := by
    intro x x0 x1 e
    have := a7 x i (by omega) x1 h0 h1 e
    omega
  have eqs : ∀ y, i ≤ y → y < s → ∀ o', vOp st o' → pN mc ah (so y) o' → (if o' = so i then r else tl o') = tl o' := by
    intro y y0 y1 o' v' p'
    rw [if_neg]
    intro e
    have := a9 i y h0 h1 (by omega) y1 (e ▸ p')
    omega
  obtain ⟨t1, t2, t3, t4, t5⟩ := ht
  refine ⟨fun x x0 x1 => ?_, ?_, ?_, fun x x0 x1 => ?_, ?_⟩
  · by_cases q : x = i
    · subst q
      simp only [if_true]
      exact ⟨tEq_congr hrr (eqs x (by omega) x1), r0, rb⟩
    · simp only [if_neg (hne x (by omega) x1)]
      obtain ⟨u1, u2, u3⟩ := t1 x (by omega) x1
      exact ⟨tEq_congr u1 (eqs x (by omega) x1), u2, u3⟩
  · rw [hL]
    split <;> omega
  · rw [hL]
    split <;> omega
  · by_cases q : x = i
    · subst q
      simp only [if_true]
      rw [hL]
      split <;> omega
    · simp only [if_neg (hne x (by omega) x1)]
      have := t4 x (by omega) x1
      rw [hL]
      split <;> omega
  · rw [hL]
    split
    · rcases t5 with t5 | ⟨x, x0, x1, e⟩
      · exact Or.inl t5
      · refine Or.inr ⟨x, by omega, x1, ?_⟩
        simp only [if_neg (hne x x0 x1)]
        exact e
    · refine Or.inr ⟨i, by omega, h1, ?_⟩
      simp only [if_true]
/-- heads, tails and the length are found -/
def Msd (st mc du rd ah hd tl : Int → Int) (L : Int) : Prop := IsHead (vOp st) (pN mc ah) du rd hd ∧ IsTail (vOp st) (pN mc ah) du tl ∧ IsMax (vOp st) (fun o => hd o + du o + tl o) L ∧ L ≤ 1100 ∧ ∀ o, vOp st o → 0 ≤ hd o ∧ hd o ≤ 700 ∧ 0 ≤ tl o ∧ tl o ≤ 320
theorem TV_end {st mc du rd on ah hd tl so ss sn : Int → Int} {s L i : Int} (hB : NB st mc du rd on) (h : SI st mc du rd on ah hd so ss sn s) (hs : st 0 + st 1 + st 2 + st 3 ≤ s) (ht : TV st mc du rd ah hd tl so s L i) (hi : i = -1) : Msd st mc du rd ah hd tl L := by
  have s16 := SI_16 hB h
  have pl : ∀ o, vOp st o → vOp ss o ∧ ∃ x, 0 ≤ x ∧ x < s ∧ so x = o := by
    intro o v
    have hj := vOp_j v
    have hf := SI_full hB h hs hj.1 hj.2.1
    have v' : vOp ss o := ⟨v.1, v.2.1, by rw [hf]; exact v.2.2⟩
    exact ⟨v', h.2.2.2.2.2.1 o v'⟩
  obtain ⟨t1, t2, t3, t4, t5⟩ := ht
  refine ⟨fun o v => ?_, fun o v => ?_, ⟨t2, fun o v => ?_, ?_⟩, t3, fun o v => ?_⟩
  · exact h.2.2.2.2.2.2.2.2.2.1 o (pl o v).1
  · obtain ⟨-, x, x0, x1, rfl⟩ := pl o v
    exact (t1 x (by omega) x1).1
  · obtain ⟨-, x, x0, x1, rfl⟩ := pl o v
    exact t4 x (by omega) x1
  · rcases t5 with t5 | ⟨x, x0, x1, e⟩
    · exact Or.inl t5
    · exact Or.inr ⟨so x, SI_v h (h.2.2.2.2.1 x (by omega) x1), e⟩
  · obtain ⟨v', x, x0, x1, rfl⟩ := pl o v
    have u1 := t1 x (by omega) x1
    have u2 := h.2.2.2.2.2.2.2.2.2.2 x x0 x1
    omega
end
section
theorem up_ap (σ : Mem) (t i : Nat) (j v : Int) (t' i' : Nat) (j' : Int) : up σ t i j v t' i' j' = if t' = t ∧ i' = i ∧ j' = j then v else σ t' i' j' := rfl
/-- nothing is different but what a net's measuring finds -/
def Frm (n : Nat) (σ σ' : Mem) : Prop := ∀ t a x, ¬ (a = n ∧ (t = 21 ∨ t = 22 ∨ t = 23 ∨ t = 24 ∨ t = 25 ∨ (t = 1 ∧ (x = 8 ∨ x = 11)))) → σ' t a x = σ t a x
theorem Frm.r {n : Nat} {σ : Mem} : Frm n σ σ := fun _ _ _ _ => rfl
theorem Frm.t {n : Nat} {σ σ' σ2 : Mem} (h : Frm n σ σ') (h2 : Frm n σ' σ2) : Frm n σ σ2 := fun t a x q => by rw [h2 t a x q, h t a x q]
theorem Frm.f {n : Nat} {σ σ' : Mem} (h : Frm n σ σ') (t : Nat) (ht : t ≠ 1 ∧ (t < 21 ∨ 25 < t)) : σ' t n = σ t n := by
  funext x
  refine h t n x ?_
  rintro ⟨-, q | q | q | q | q | ⟨q, -⟩⟩ <;> omega
theorem Frm.u {n : Nat} {σ σ' : Mem} (h : Frm n σ σ') {t : Nat} {x v : Int} (ht : t = 21 ∨ t = 22 ∨ t = 23 ∨ t = 24 ∨ t = 25 ∨ (t = 1 ∧ (x = 8 ∨ x = 11))) : Frm n σ (up σ' t n x v) := by
  intro t' a' x' q
  rw [up_ap, if_neg, h t' a' x' q]
  rintro ⟨rfl, rfl, rfl⟩
  exact q ⟨rfl, ht⟩
def nB (σ : Mem) (n : Nat) : Prop := NB (σ 15 n) (σ 16 n) (σ 17 n) (σ 18 n) (σ 19 n)
def nA (σ : Mem) (n : Nat) : Prop := NA (σ 15 n) (σ 16 n) (σ 19 n) (σ 20 n)
def nO (σ : Mem) (n : Nat) : Prop := σ 1 n 9 = σ 15 n 0 + σ 15 n 1 + σ 15 n 2 + σ 15 n 3
def nS (σ : Mem) (n : Nat) : Prop := SI (σ 15 n) (σ 16 n) (σ 17 n) (σ 18 n) (σ 19 n) (σ 20 n) (σ 21 n) (σ 23 n) (σ 24 n) (σ 25 n) (σ 1 n 11)
def nK (σ : Mem) (n : Nat) (j : Int) : Prop := bkd (σ 15 n) (σ 16 n) (σ 19 n) (σ 20 n) (σ 24 n) j
def nM (σ : Mem) (n : Nat) : Prop := Msd (σ 15 n) (σ 16 n) (σ 17 n) (σ 18 n) (σ 20 n) (σ 21 n) (σ 22 n) (σ 1 n 8)
def nN (σ : Mem) (n : Nat) : Prop := NoSol (σ 15 n) (σ 16 n) (σ 20 n)
theorem Frm.B {n : Nat} {σ σ' : Mem} (h : Frm n σ σ') (hB : nB σ n) : nB σ' n := by
  unfold nB
  rw [h.f 15 (by omega), h.f 16 (by omega), h.f 17 (by omega), h.f 18 (by omega), h.f 19 (by omega)]
  exact hB
theorem Frm.A {n : Nat} {σ σ' : Mem} (h : Frm n σ σ') (hA : nA σ n) : nA σ' n := by
  unfold nA
  rw [h.f 15 (by omega), h.f 16 (by omega), h.f 19 (by omega), h.f 20 (by omega)]
  exact hA
theorem Frm.N {n : Nat} {σ σ' : Mem} (h : Frm n σ σ') (hN : nN σ' n) : nN σ n := by
  unfold nN at hN
  rw [h.f 15 (by omega), h.f 16 (by omega), h.f 20 (by omega)] at hN
  exact hN
/-- what sortAlong does -/
def SAr (n : Nat) (j : Int) (σ σ' : Mem) : Prop := Frm n σ σ' ∧ nS σ' n ∧ (∀ i, i ≠ j → σ' 24 n i = σ 24 n i) ∧ σ 24 n j ≤ σ' 24 n j ∧ nK σ' n j
def SAi (n : Nat) (j : Int) (σ σ' : Mem) : Prop := Frm n σ σ' ∧ nS σ' n ∧ (∀ i, i ≠ j → σ' 24 n i = σ 24 n i) ∧ σ 24 n j ≤ σ' 24 n j ∧ nB σ' n ∧ nA σ' n
theorem SAi_0 {n : Nat} {j : Int} {σ : Mem} (hB : nB σ n) (hA : nA σ n) (hS : nS σ n) : SAi n j σ σ := ⟨Frm.r, hS, fun _ _ => rfl, Int.le_refl _, hB, hA⟩
theorem SAi_end {n : Nat} {j : Int} {σ σ' : Mem} (h : SAi n j σ σ') (j0 : 0 ≤ j) (j1 : j < 4) (he : σ' 15 n j ≤ σ' 24 n j) : SAr n j σ σ' := ⟨h.1, h.2.1, h.2.2.1, h.2.2.2.1, Or.inl (by have := (h.2.1.1 j j0 j1).2; omega)⟩
theorem SAi_16 {n : Nat} {j : Int} {σ σ' : Mem} (h : SAi n j σ σ') (j0 : 0 ≤ j) (j1 : j < 4) (he : 16 ≤ σ' 1 n 11) : SAr n j σ σ' := ⟨h.1, h.2.1, h.2.2.1, h.2.2.2.1, Or.inl (SI_16e h.2.2.2.2.1 h.2.1 he j0 j1)⟩
theorem SAi_bk {n : Nat} {j : Int} {σ σ' : Mem} (h : SAi n j σ σ') (j0 : 0 ≤ j) (j1 : j < 4) (hs : σ' 24 n j < σ' 15 n j) (hb : ¬ band (σ' 20 n (4 * j + σ' 24 n j)) (bxor (σ' 25 n (σ' 16 n (4 * j + σ' 24 n j))) (-1)) = 0) : SAr n j σ σ' := ⟨h.1, h.2.1, h.2.2.1, h.2.2.2.1, SI_bk h.2.2.2.2.1 h.2.2.2.2.2 h.2.1 j0 j1 hs hb⟩
theorem SAi_step {n : Nat} {j r : Int} {σ σ' : Mem} (h : SAi n j σ σ') (j0 : 0 ≤ j) (j1 : j < 4) (hs : σ' 24 n j < σ' 15 n j) (hb : band (σ' 20 n (4 * j + σ' 24 n j)) (bxor (σ' 25 n (σ' 16 n (4 * j + σ' 24 n j))) (-1)) = 0) (hr : HI σ' n (4 * j + σ' 24 n j) r 4) : SAi n j σ (up (up (up (up (up σ' 21 n (4 * j + σ' 24 n j) r) 23 n (σ' 1 n 11) (4 * j + σ' 24 n j)) 1 n 11 (σ' 1 n 11 + 1)) 25 n (σ' 16 n (4 * j + σ' 24 n j)) (bor (σ' 25 n (σ' 16 n (4 * j + σ' 24 n j))) (bshl 1 j))) 24 n j (σ' 24 n j + 1)) := by
  obtain ⟨h1, h2, h3, h4, h5, h6⟩ := h
  have hss := h2.1 j j0 j1
  have hst := h5.1 j j0 j1
  have oj : (4 * j + σ' 24 n j) / 4 = j := by omega
  have hv : vOp (σ' 15 n) (4 * j + σ' 24 n j) := ⟨by omega, by omega, by rw [oj]; omega⟩
  have hF : Frm n σ' (up (up (up (up (up σ' 21 n (4 * j + σ' 24 n j) r) 23 n (σ' 1 n 11) (4 * j + σ' 24 n j)) 1 n 11 (σ' 1 n 11 + 1)) 25 n (σ' 16 n (4 * j + σ' 24 n j)) (bor (σ' 25 n (σ' 16 n (4 * j + σ' 24 n j))) (bshl 1 j))) 24 n j (σ' 24 n j + 1)) := ((((Frm.r.u (by omega)).u (by omega)).u (by omega)).u (by omega)).u (by omega)
  have key := SI_add h5 h6 h2 j0 j1 rfl hs hb (HI_eq h5 h6 hv hr)
  refine ⟨h1.t hF, ?_, fun i q => ?_, ?_, hF.B h5, hF.A h6⟩
  · unfold nS
    rw [hF.f 15 (by omega), hF.f 16 (by omega), hF.f 17 (by omega), hF.f 18 (by omega), hF.f 19 (by omega), hF.f 20 (by omega)]
    have e21 : (up (up (up (up (up σ' 21 n (4 * j + σ' 24 n j) r) 23 n (σ' 1 n 11) (4 * j + σ' 24 n j)) 1 n 11 (σ' 1 n 11 + 1)) 25 n (σ' 16 n (4 * j + σ' 24 n j)) (bor (σ' 25 n (σ' 16 n (4 * j + σ' 24 n j))) (bshl 1 j))) 24 n j (σ' 24 n j + 1)) 21 n = fun x => if x = 4 * j + σ' 24 n j then r else σ' 21 n x := by
      funext x
      simp [up_ap]
    have e23 : (up (up (up (up (up σ' 21 n (4 * j + σ' 24 n j) r) 23 n (σ' 1 n 11) (4 * j + σ' 24 n j)) 1 n 11 (σ' 1 n 11 + 1)) 25 n (σ' 16 n (4 * j + σ' 24 n j)) (bor (σ' 25 n (σ' 16 n (4 * j + σ' 24 n j))) (bshl 1 j))) 24 n j (σ' 24 n j + 1)) 23 n = fun x => if x = σ' 1 n 11 then 4 * j + σ' 24 n j else σ' 23 n x := by
      funext x
      simp [up_ap]
    have e24 : (up (up (up (up (up σ' 21 n (4 * j + σ' 24 n j) r) 23 n (σ' 1 n 11) (4 * j + σ' 24 n j)) 1 n 11 (σ' 1 n 11 + 1)) 25 n (σ' 16 n (4 * j + σ' 24 n j)) (bor (σ' 25 n (σ' 16 n (4 * j + σ' 24 n j))) (bshl 1 j))) 24 n j (σ' 24 n j + 1)) 24 n = fun x => if x = j then σ' 24 n j + 1 else σ' 24 n x := by
      funext x
      simp [up_ap]
    have e25 : (up (up (up (up (up σ' 21 n (4 * j + σ' 24 n j) r) 23 n (σ' 1 n 11) (4 * j + σ' 24 n j)) 1 n 11 (σ' 1 n 11 + 1)) 25 n (σ' 16 n (4 * j + σ' 24 n j)) (bor (σ' 25 n (σ' 16 n (4 * j + σ' 24 n j))) (bshl 1 j))) 24 n j (σ' 24 n j + 1)) 25 n = fun x => if x = σ' 16 n (4 * j + σ' 24 n j) then bor (σ' 25 n (σ' 16 n (4 * j + σ' 24 n j))) (bshl 1 j) else σ' 25 n x := by
      funext x
      simp [up_ap]
    have e1 : (up (up (up (up (up σ' 21 n (4 * j + σ' 24 n j) r) 23 n (σ' 1 n 11) (4 * j + σ' 24 n j)) 1 n 11 (σ' 1 n 11 + 1)) 25 n (σ' 16 n (4 * j + σ' 24 n j)) (bor (σ' 25 n (σ' 16 n (4 * j + σ' 24 n j))) (bshl 1 j))) 24 n j (σ' 24 n j + 1)) 1 n 11 = σ' 1 n 11 + 1 := by
      simp [up_ap]
    rw [e21, e23, e24, e25, e1]
    exact key
  · rw [← h3 i q]
    simp [up_ap, q]
  · simp [up_ap]
    omega
theorem SAi_pre {n : Nat} {j : Int} {σ σ' : Mem} (h : SAi n j σ σ') (j0 : 0 ≤ j) (j1 : j < 4) (hs : σ' 24 n j < σ' 15 n j) : 0 ≤ σ' 24 n j ∧ σ' 24 n j < 4 ∧ 0 ≤ σ' 16 n (4 * j + σ' 24 n j) ∧ σ' 16 n (4 * j + σ' 24 n j) < 4 ∧ 0 ≤ σ' 1 n 11 ∧ σ' 1 n 11 ≤ 16 := by
  obtain ⟨h1, h2, h3, h4, h5, h6⟩ := h
  have hss := h2.1 j j0 j1
  have hst := h5.1 j j0 j1
  have oj : (4 * j + σ' 24 n j) / 4 = j := by omega
  have hv : vOp (σ' 15 n) (4 * j + σ' 24 n j) := ⟨by omega, by omega, by rw [oj]; omega⟩
  have := h5.2.1 _ hv
  have s16 := SI_16 h5 h2
  exact ⟨hss.1, by omega, this.1, this.2.1, s16.1, s16.2.1⟩
theorem SAi_preH {n : Nat} {j : Int} {σ σ' : Mem} (h : SAi n j σ σ') (j0 : 0 ≤ j) (j1 : j < 4) (hs : σ' 24 n j < σ' 15 n j) (hb : band (σ' 20 n (4 * j + σ' 24 n j)) (bxor (σ' 25 n (σ' 16 n (4 * j + σ' 24 n j))) (-1)) = 0) : ((4 * j + σ' 24 n j) % 4 ≠ 0 → inR (σ' 21 n (4 * j + σ' 24 n j - 1) + σ' 17 n (4 * j + σ' 24 n j - 1))) ∧ (∀ k, 0 ≤ k → k < 4 → hasB (σ' 20 n (4 * j + σ' 24 n j)) k → 0 ≤ σ' 19 n (4 * σ' 16 n (4 * j + σ' 24 n j) + k) ∧ σ' 19 n (4 * σ' 16 n (4 * j + σ' 24 n j) + k) < 16 ∧ inR (σ' 21 n (σ' 19 n (4 * σ' 16 n (4 * j + σ' 24 n j) + k)) + σ' 17 n (σ' 19 n (4 * σ' 16 n (4 * j + σ' 24 n j) + k)))) := by
  obtain ⟨h1, h2, h3, h4, h5, h6⟩ := h
  have hss := h2.1 j j0 j1
  have hst := h5.1 j j0 j1
  have oj : (4 * j + σ' 24 n j) / 4 = j := by omega
  have hv : vOp (σ' 15 n) (4 * j + σ' 24 n j) := ⟨by omega, by omega, by rw [oj]; omega⟩
  obtain ⟨m0, m1, -⟩ := h5.2.1 _ hv
  obtain ⟨a0, a1, a2⟩ := h6 _ hv
  obtain ⟨n0, n1⟩ := h2.2.1 _ m0 m1
  rw [bit_sub a0 a1 n0 n1] at hb
  have s16 := SI_16 h5 h2
  refine ⟨fun q => ?_, fun k k0 k1 k2 => ?_⟩
  · have e : (4 * j + σ' 24 n j - 1) / 4 = j := by omega
    have w : vOp (σ' 24 n) (4 * j + σ' 24 n j - 1) := ⟨by omega, by omega, by rw [e]; omega⟩
    have u1 := SI_hd h5 h2 w
    have u2 := h5.2.1 _ (SI_v h2 w)
    exact ⟨by omega, by omega⟩
  · have w := (h2.2.2.1 _ k m0 m1 k0 k1).mp (hb k k0 k1 k2)
    have u1 := SI_hd h5 h2 w
    have u2 := h5.2.1 _ (SI_v h2 w)
    exact ⟨w.1, w.2.1, by omega, by omega⟩
/-- a round of sorting -/
theorem ms_round {n : Nat} {σ s1 s2 s3 s4 : Mem} (hS : nS σ n) (h1 : SAr n 0 σ s1) (h2 : SAr n 1 s1 s2) (h3 : SAr n 2 s2 s3) (h4 : SAr n 3 s3 s4) : Frm n σ s4 ∧ nS s4 n ∧ σ 1 n 11 ≤ s4 1 n 11 ∧ (s4 1 n 11 ≤ σ 1 n 11 → ∀ j, 0 ≤ j → j < 4 → nK s4 n j) := by
  obtain ⟨a1, a2, a3, a4, a5⟩ := h1
  obtain ⟨b1, b2, b3, b4, b5⟩ := h2
  obtain ⟨c1, c2, c3, c4, c5⟩ := h3
  obtain ⟨d1, d2, d3, d4, d5⟩ := h4
  have e0 := hS.2.2.2.1
  have e4 := d2.2.2.2.1
  have A1 := a3 1 (by omega)
  have A2 := a3 2 (by omega)
  have A3 := a3 3 (by omega)
  have B0 := b3 0 (by omega)
  have B2 := b3 2 (by omega)
  have B3 := b3 3 (by omega)
  have C0 := c3 0 (by omega)
  have C1 := c3 1 (by omega)
  have C3 := c3 3 (by omega)
  have D0 := d3 0 (by omega)
  have D1 := d3 1 (by omega)
  have D2 := d3 2 (by omega)
  refine ⟨((a1.t b1).t c1).t d1, d2, by omega, fun hle => ?_⟩
  have eqs : ∀ i, s4 24 n i = s1 24 n i ∧ s4 24 n i = s2 24 n i ∧ s4 24 n i = s3 24 n i := by
    intro i
    by_cases q0 : i = 0
    · subst q0
      omega
    · by_cases q1 : i = 1
      · subst q1
        omega
      · by_cases q2 : i = 2
        · subst q2
          omega
        · by_cases q3 : i = 3
          · subst q3
            omega
          · have u1 := d3 i q3
            have u2 := c3 i q2
            have u3 := b3 i q1
            omega
  have f1 : s4 24 n = s1 24 n := funext fun i => (eqs i).1
  have f2 : s4 24 n = s2 24 n := funext fun i => (eqs i).2.1
  have f3 : s4 24 n = s3 24 n := funext fun i => (eqs i).2.2
  have g3 := d1
  have g2 := c1.t d1
  have g1 := (b1.t c1).t d1
  intro j j0 j1
  rcases (show j = 0 ∨ j = 1 ∨ j = 2 ∨ j = 3 by omega) with rfl | rfl | rfl | rfl
  · unfold nK at a5 ⊢
    rw [g1.f 15 (by omega), g1.f 16 (by omega), g1.f 19 (by omega), g1.f 20 (by omega), f1]
    exact a5
  · unfold nK at b5 ⊢
    rw [g2.f 15 (by omega), g2.f 16 (by omega), g2.f 19 (by omega), g2.f 20 (by omega), f2]
    exact b5
  · unfold nK at c5 ⊢
    rw [g3.f 15 (by omega), g3.f 16 (by omega), g3.f 19 (by omega), g3.f 20 (by omega), f3]
    exact c5
  · exact d5
/-- measure's rounds: news, how many -/
def MRi (n : Nat) (σ σ' : Mem) (nw rd : Int) : Prop := Frm n σ σ' ∧ nS σ' n ∧ nB σ' n ∧ nA σ' n ∧ 0 ≤ rd ∧ rd ≤ 16 ∧ ((nw = 1 ∧ rd ≤ σ' 1 n 11) ∨ (nw = 0 ∧ ∀ j, 0 ≤ j → j < 4 → nK σ' n j))
theorem MRi_0 {n : Nat} {σ : Mem} (hB : nB σ n) (hA : nA σ n) {σ' : Mem} (hF : Frm n σ σ') (h24 : ∀ j, 0 ≤ j → j < 4 → σ' 24 n j = 0) (h25 : ∀ j, 0 ≤ j → j < 4 → σ' 25 n j = 0) (h1 : σ' 1 n 11 = 0) : MRi n σ σ' 1 0 := by
  refine ⟨hF, ?_, hF.B hB, hF.A hA, by omega, by omega, Or.inl ⟨rfl, by omega⟩⟩
  unfold nS
  rw [h1]
  exact SI_zero (hF.B hB) h24 h25
theorem MRi_step {n : Nat} {σ σ' s1 s2 s3 s4 : Mem} {nw rd : Int} (h : MRi n σ σ' nw rd) (hw : nw ≠ 0) (hr : ¬ 16 ≤ rd) (h1 : SAr n 0 σ' s1) (h2 : SAr n 1 s1 s2) (h3 : SAr n 2 s2 s3) (h4 : SAr n 3 s3 s4) : (s4 1 n 11 ≤ σ' 1 n 11 → MRi n σ s4 0 (rd + 1)) ∧ (¬ s4 1 n 11 ≤ σ' 1 n 11 → MRi n σ s4 1 (rd + 1)) := by
  obtain ⟨a1, a2, a3, a4, a5, a6, a7⟩ := h
  obtain ⟨b1, b2, b3, b4⟩ := ms_round a2 h1 h2 h3 h4
  refine ⟨fun q => ⟨a1.t b1, b2, b1.B a3, b1.A a4, by omega, by omega, Or.inr ⟨rfl, b4 q⟩⟩, fun q => ⟨a1.t b1, b2, b1.B a3, b1.A a4, by omega, by omega, Or.inl ⟨rfl, ?_⟩⟩⟩
  rcases a7 with ⟨-, a7⟩ | ⟨a7, -⟩
  · omega
  · exact absurd a7 hw
theorem MRi_no {n : Nat} {σ σ' : Mem} {nw rd : Int} (h : MRi n σ σ' nw rd) (hO : nO σ n) (he : nw = 0 ∨ 16 ≤ rd) (hl : σ' 1 n 11 < σ' 1 n 9) : nN σ n := by
  obtain ⟨a1, a2, a3, a4, a5, a6, a7⟩ := h
  refine a1.N ?_
  have e9 : σ' 1 n 9 = σ 1 n 9 := a1 1 n 9 (by omega)
  unfold nO at hO
  rw [← a1.f 15 (by omega), ← e9] at hO
  rcases a7 with ⟨q1, q2⟩ | ⟨q1, q2⟩
  · have b0 := a3.1 0 (by omega) (by omega)
    have b1 := a3.1 1 (by omega) (by omega)
    have b2 := a3.1 2 (by omega) (by omega)
    have b3 := a3.1 3 (by omega) (by omega)
    omega
  · exact SI_stuck a3 a4 a2 q2 (by omega)
/-- measure's way back -/
def MTi (n : Nat) (σ σ' : Mem) (i : Int) : Prop := Frm n σ σ' ∧ nS σ' n ∧ nB σ' n ∧ nA σ' n ∧ σ' 15 n 0 + σ' 15 n 1 + σ' 15 n 2 + σ' 15 n 3 ≤ σ' 1 n 11 ∧ TV (σ' 15 n) (σ' 16 n) (σ' 17 n) (σ' 18 n) (σ' 20 n) (σ' 21 n) (σ' 22 n) (σ' 23 n) (σ' 1 n 11) (σ' 1 n 8) i ∧ -1 ≤ i ∧ i < σ' 1 n 11
theorem nS_u8 {n : Nat} {σ : Mem} {v : Int} (h : nS σ n) : nS (up σ 1 n 8 v) n := by
  have e : ∀ t, t ≠ 1 → (up σ 1 n 8 v) t n = σ t n := by
    intro t q
    funext x
    rw [up_ap, if_neg (fun c => q c.1)]
  have e1 : (up σ 1 n 8 v) 1 n 11 = σ 1 n 11 := by
    rw [up_ap, if_neg]
    rintro ⟨-, -, c⟩
    omega
  unfold nS
  rw [e 15 (by omega), e 16 (by omega), e 17 (by omega), e 18 (by omega), e 19 (by omega), e 20 (by omega), e 21 (by omega), e 23 (by omega), e 24 (by omega), e 25 (by omega), e1]
  exact h
theorem nS_u22 {n : Nat} {σ : Mem} {x v : Int} (h : nS σ n) : nS (up σ 22 n x v) n := by
  have e : ∀ t, t ≠ 22 → (up σ 22 n x v) t n = σ t n := by
    intro t q
    funext x
    rw [up_ap, if_neg (fun c => q c.1)]
  unfold nS
  rw [e 15 (by omega), e 16 (by omega), e 17 (by omega), e 18 (by omega), e 19 (by omega), e 20 (by omega), e 21 (by omega), e 23 (by omega), e 24 (by omega), e 25 (by omega), e 1 (by omega)]
  exact h
theorem MTi_0 {n : Nat} {σ σ' : Mem} {nw rd : Int} (h : MRi n σ σ' nw rd) (hO : nO σ n) (hl : ¬ σ' 1 n 11 < σ' 1 n 9) : MTi n σ (up σ' 1 n 8 0) (σ' 1 n 11 - 1) := by
  obtain ⟨a1, a2, a3, a4, a5, a6, a7⟩ := h
  have e9 : σ' 1 n 9 = σ 1 n 9 := a1 1 n 9 (by omega)
  have hF : Frm n σ' (up σ' 1 n 8 0) := Frm.r.u (by omega)
  unfold nO at hO
  rw [← a1.f 15 (by omega), ← e9] at hO
  have e1 : (up σ' 1 n 8 0) 1 n 11 = σ' 1 n 11 := by
    rw [up_ap, if_neg]
    rintro ⟨-, -, c⟩
    omega
  have e8 : (up σ' 1 n 8 0) 1 n 8 = 0 := by
    rw [up_ap, if_pos ⟨rfl, rfl, rfl⟩]
  have s16 := SI_16 a3 a2
  refine ⟨a1.t hF, nS_u8 a2, hF.B a3, hF.A a4, ?_, ?_, by omega, by omega⟩
  · rw [hF.f 15 (by omega), e1]
    omega
  · rw [e1, e8]
    exact TV_0
theorem MTi_v {n : Nat} {σ σ' : Mem} {i : Int} (h : MTi n σ σ' i) (h0 : 0 ≤ i) : vOp (σ' 15 n) (σ' 23 n i) ∧ i < 16 := by
  obtain ⟨a1, a2, a3, a4, a5, a6, a7, a8⟩ := h
  have s16 := SI_16 a3 a2
  exact ⟨SI_v a2 (a2.2.2.2.2.1 i h0 a8), by omega⟩
theorem MTi_pre {n : Nat} {σ σ' : Mem} {i : Int} (h : MTi n σ σ' i) (h0 : 0 ≤ i) : 0 ≤ σ' 23 n i ∧ σ' 23 n i < 16 ∧ 0 ≤ σ' 16 n (σ' 23 n i) ∧ σ' 16 n (σ' 23 n i) < 4 ∧ σ' 15 n (σ' 23 n i / 4) ≤ 4 ∧ (σ' 23 n i % 4 + 1 < σ' 15 n (σ' 23 n i / 4) → 0 ≤ σ' 17 n (σ' 23 n i + 1) + σ' 22 n (σ' 23 n i + 1) ∧ inR (σ' 17 n (σ' 23 n i + 1) + σ' 22 n (σ' 23 n i + 1))) ∧ (∀ k, 0 ≤ k → k < 4 → σ' 19 n (4 * σ' 16 n (σ' 23 n i) + k) < 16 ∧ (0 ≤ σ' 19 n (4 * σ' 16 n (σ' 23 n i) + k) → hasB (σ' 20 n (σ' 19 n (4 * σ' 16 n (σ' 23 n i) + k))) (σ' 23 n i / 4) → inR (σ' 17 n (σ' 19 n (4 * σ' 16 n (σ' 23 n i) + k)) + σ' 22 n (σ' 19 n (4 * σ' 16 n (σ' 23 n i) + k))))) := by
  have hv := (MTi_v h h0).1
  obtain ⟨a1, a2, a3, a4, a5, a6, a7, a8⟩ := h
  have hj := vOp_j hv
  obtain ⟨m0, m1, -⟩ := a3.2.1 _ hv
  have hst := a3.1 _ hj.1 hj.2.1
  have s16 := SI_16 a3 a2
  refine ⟨hv.1, hv.2.1, m0, m1, hst.2, fun q => ?_, fun k k0 k1 => ⟨NB_16 a3 m0 m1 k0 k1, fun q1 q2 => ?_⟩⟩
  · have v1 := hv.1
    have v2 := hv.2.1
    have e : (σ' 23 n i + 1) / 4 = σ' 23 n i / 4 := by omega
    have w : vOp (σ' 15 n) (σ' 23 n i + 1) := ⟨by omega, by omega, by rw [e]; omega⟩
    obtain ⟨x, x0, x1, hx⟩ := TV_suc a3 a2 a5 a6 h0 a8 w (Or.inl ⟨by omega, by omega⟩)
    have u1 := a6.1 x x0 x1
    rw [hx] at u1
    have u2 := a3.2.1 _ w
    exact ⟨by omega, by omega, by omega⟩
  · obtain ⟨b1, b2, b3⟩ := a3.2.2 (σ' 16 n (σ' 23 n i)) k m0 m1 k0 k1 q1
    obtain ⟨x, x0, x1, hx⟩ := TV_suc a3 a2 a5 a6 h0 a8 b1 (Or.inr ⟨b2.symm, q2⟩)
    have u1 := a6.1 x x0 x1
    rw [hx] at u1
    have u2 := a3.2.1 _ b1
    exact ⟨by omega, by omega⟩
theorem MTi_r {n : Nat} {σ σ' : Mem} {i r : Int} (h : MTi n σ σ' i) (h0 : 0 ≤ i) (hr : TI σ' n (σ' 23 n i) r 4) : 0 ≤ r ∧ r ≤ 1000 ∧ 0 ≤ σ' 21 n (σ' 23 n i) ∧ σ' 21 n (σ' 23 n i) ≤ 1000 ∧ 1 ≤ σ' 17 n (σ' 23 n i) ∧ σ' 17 n (σ' 23 n i) ≤ 20 := by
  have hv := (MTi_v h h0).1
  obtain ⟨a1, a2, a3, a4, a5, a6, a7, a8⟩ := h
  have s16 := SI_16 a3 a2
  have hd := a2.2.2.2.2.2.2.2.2.2.2 i h0 a8
  have hdu := a3.2.1 _ hv
  obtain ⟨r0, r1, r2⟩ := TI_eq a3 hv hr
  refine ⟨r0, ?_, by omega, by omega, by omega, by omega⟩
  rcases r2 with r2 | ⟨o', v', p', r2⟩
  · omega
  · obtain ⟨x, x0, x1, rfl⟩ := TV_suc a3 a2 a5 a6 h0 a8 v' p'
    have := (a6.1 x x0 x1).2.2
    have := (a3.2.1 _ v').2.2.2.1
    omega
theorem MTi_step {n : Nat} {σ σ' : Mem} {i r L' : Int} (h : MTi n σ σ' i) (h0 : 0 ≤ i) (hr : TI σ' n (σ' 23 n i) r 4) (hL : L' = if σ' 21 n (σ' 23 n i) + σ' 17 n (σ' 23 n i) + r ≤ σ' 1 n 8 then σ' 1 n 8 else σ' 21 n (σ' 23 n i) + σ' 17 n (σ' 23 n i) + r) : MTi n σ (up (up σ' 22 n (σ' 23 n i) r) 1 n 8 L') (i - 1) := by
  have hv := (MTi_v h h0).1
  obtain ⟨a1, a2, a3, a4, a5, a6, a7, a8⟩ := h
  have hF : Frm n σ' (up (up σ' 22 n (σ' 23 n i) r) 1 n 8 L') := (Frm.r.u (by omega)).u (by omega)
  have e1 : (up (up σ' 22 n (σ' 23 n i) r) 1 n 8 L') 1 n 11 = σ' 1 n 11 := by
    rw [up_ap, if_neg (by rintro ⟨-, -, c⟩; omega), up_ap, if_neg (by rintro ⟨c, -⟩; omega)]
  have e8 : (up (up σ' 22 n (σ' 23 n i) r) 1 n 8 L') 1 n 8 = L' := by
    rw [up_ap, if_pos ⟨rfl, rfl, rfl⟩]
  have e22 : (up (up σ' 22 n (σ' 23 n i) r) 1 n 8 L') 22 n = fun x => if x = σ' 23 n i then r else σ' 22 n x := by
    funext x
    simp [up_ap]
  have e21 : (up (up σ' 22 n (σ' 23 n i) r) 1 n 8 L') 21 n = σ' 21 n := by
    funext x
    simp [up_ap]
  have e23 : (up (up σ' 22 n (σ' 23 n i) r) 1 n 8 L') 23 n = σ' 23 n := by
    funext x
    simp [up_ap]
  refine ⟨a1.t hF, nS_u8 (nS_u22 a2), hF.B a3, hF.A a4, ?_, ?_, by omega, by omega⟩
  · rw [hF.f 15 (by omega), e1]
    exact a5
  · rw [hF.f 15 (by omega), hF.f 16 (by omega), hF.f 17 (by omega), hF.f 18 (by omega), hF.f 20 (by omega), e1, e8, e21, e22, e23]
    exact TV_add a3 a2 a5 a6 h0 a8 (TI_eq a3 hv hr) hL
theorem MTi_end {n : Nat} {σ σ' : Mem} {i : Int} (h : MTi n σ σ' i) (h0 : ¬ 0 ≤ i) : Frm n σ σ' ∧ nM σ' n := by
  obtain ⟨a1, a2, a3, a4, a5, a6, a7, a8⟩ := h
  exact ⟨a1, TV_end a3 a2 a5 a6 (by omega)⟩
end
section
def ca_X1_sortAlong : Nat → Option (Nat × Nat × Tr)
  | 102 => some (2, 1, T_X1_headOf)
  | _ => none
theorem cao_X1_sortAlong (l : Launch) : ∀ k n' ci T', ca_X1_sortAlong k = some (n', ci, T') → ∃ nn, nn + 1 ≤ 1 ∧ Site l yX1_sortAlong.cls k n' ci nn T' := by
  intro k n' ci T' h
  unfold ca_X1_sortAlong at h
  split at h
  · cases h; exact ⟨0, by decide, _, _, _, _, k_X1_headOf l, Or.inl ⟨_, rfl, FX1_headOf, KRX1_102⟩⟩
  · cases h
def T_X1_sortAlong : Tr := fun a σ K => match a with
  | [.inr (.inl (1, n)), .inl j] => (0 ≤ j ∧ j < 4 ∧ nB σ n ∧ nA σ n ∧ nS σ n) ∧ ∀ σ', SAr n j σ σ' → K none σ'
  | _ => False
set_option maxHeartbeats 8000000 in
set_option maxRecDepth 20000 in
theorem k_X1_sortAlong (l : Launch) : Ct l yX1_sortAlong cX1_sortAlong 4 none 1 T_X1_sortAlong := by
  refine mk_met (by decide +kernel) hCX1_sortAlong lCX1_sortAlong frX1_ok cstX1_ok (cao_X1_sortAlong l) ?_ ?_
  · intro a σ K h
    unfold T_X1_sortAlong at h
    split at h
    · simp [eL]
    · exact h.elim
  · intro a σ K ha hR h
    unfold T_X1_sortAlong at h
    split at h
    · rename_i n j
      refine ⟨fun pc => if pc = 24 then some (fun L S σ' k => match L, S with | [some (.inr (.inl c1)), some (.inl j'), _, _], [] => (c1 = (1, n) ∧ j' = j ∧ SAi n j σ σ' ∧ σ' 24 n j < σ' 15 n j ∧ σ' 1 n 11 < 16) ∧ k = (16 - σ' 1 n 11).toNat | _, _ => False) else none, 200, ?_, ?_⟩
      · intro pc I L S σ' k hcut hi
        dsimp only at hcut
        split at hcut
        · rename_i hpc
          subst hpc
          cases hcut
          try dsimp only at hi
          split at hi
          · rename_i c1 j' x1 x2
            obtain ⟨hi, rfl⟩ := hi
            obtain ⟨rfl, rfl, hI, hs, hz⟩ := hi
            obtain ⟨⟨p1, p2, p3, p4, p5⟩, h⟩ := h
            simp only [wp, stp, drp, entL, eL, lget, lset, okst, cnd, swt, rcv, Kr_int, Kr_bool, Kr_void, List.length_cons, List.length_nil, List.replicate, List.append_nil, List.cons_append, List.nil_append, List.take_succ_cons, List.take_zero, List.drop_succ_cons, List.drop_zero, List.reverse_cons, List.reverse_nil, Option.map_some, Option.map_none, Option.toList_some, Option.toList_none, Nat.reduceAdd, Nat.reduceSub, Nat.reduceLT, Nat.reduceLeDiff, Nat.reduceEqDiff, ↓reduceIte, Nat.add_zero, Nat.zero_add, true_and, and_true, Nat.le_refl, reduceCtorEq, false_implies, true_implies, not_true_eq_false, not_false_eq_true, Int.reduceAdd, Int.reduceSub, Int.reduceMul, Int.reduceLE, Int.reduceLT, Int.reduceEq, Int.reduceNe, Int.reduceNeg, Int.reduceDiv, Int.reduceMod, Bool.false_eq_true, Int.le_refl, and_self, true_or, or_true, inR_l, fv0, fv1, fv2, fv3, nc2, nc4, nc6, nc16, nc25, nc60, nc65, nc80, nc130, nc384, nc390, fp_0_0, fp_0_1, fp_0_2, fp_1_0, fp_1_1, fp_1_2, fp_1_3, fp_1_4, fp_1_5, fp_1_6, fp_1_7, fp_1_8, fp_1_9, fp_1_10, fp_1_11, fp_1_12, fp_1_13, fp_1_14, fp_2_0, fp_2_1, fp_2_2, fp_2_3, fp_3_0, fp_3_1, fp_4_0, fp_4_1, fp_4_2, fp_4_3, fp_4_4, fp_4_5, fp_4_6, fp_4_7, fp_5_0, fp_5_1, fp_5_2, fp_5_3, fp_5_4, fp_5_5, fp_5_6, fp_5_7, fp_6_0, fp_6_1, fp_6_2, fp_6_3, fp_6_4, fp_6_5, fp_6_6, fp_6_7, fp_6_8, fp_6_9, fp_6_10, fp_6_11, fp_6_12, fp_6_13, fp_6_14, fp_6_15, fp_7_0, fp_7_1, fp_7_2, fp_7_3, fp_7_4, fp_7_5, fp_7_6, fp_7_7, fp_7_8, fp_7_9, fp_7_10, fp_7_11, fp_7_12, fp_7_13, fp_7_14, fp_7_15, fp_7_16, fp_7_17, fp_7_18, fp_7_19, fp_7_20, fp_7_21, fp_7_22, fp_7_23, fp_7_24, iz_0_1, iz_0_2, iz_1_8, iz_1_9, iz_1_11, iz_2_1, iz_2_2, iz_2_3, iz_3_1, iz_4_1, iz_4_2, iz_5_0, iz_6_8, iz_6_9, iz_6_13, iz_6_14, iz_6_15, iz_7_2, iz_7_6, iz_7_12, iz_7_20, iz_7_21, iz_7_23, iz_7_24, ak_8, ak_9, ak_10, ak_11, ak_12, ak_13, ak_14, ak_15, ak_16, ak_17, ak_18, ak_19, ak_20, ak_21, ak_22, ak_23, ak_24, ak_25, ak_26, ak_27, ak_28, ak_29, ak_30, ak_31, ak_32, ak_33, ak_34, ak_35, ak_36, ak_37, ak_38, ak_39, ak_40, ak_41, ak_42, ak_43, ak_44, ak_45, ak_46, ak_47, ak_48, ak_49, ak_50, ak_51, ak_52, ak_53, ak_54, ak_55, ak_56, el31, el33, el34, CX1_sortAlong, ca_X1_sortAlong, frX1, kcX1, klX1, T_X1_headOf, up_ap, false_and, and_false, if_false, if_true, ite_true, ite_false, exists_eq_right_right, exists_eq_right, exists_eq_left, Nat.lt_irrefl, and_self, implies_true, forall_const]
            obtain ⟨q1, q2, q3, q4, q5, q6⟩ := SAi_pre hI p1 p2 hs
            (repeat' (first | (with_reducible intro _) | (with_reducible refine And.intro ?_ ?_)))
            all_goals (try first | omega | exact ⟨by omega, by omega⟩)
            all_goals first | (exact (SAi_preH hI p1 p2 hs (by assumption)).1 (by assumption)) | (exact ((SAi_preH hI p1 p2 hs (by assumption)).2 _ (by assumption) (by assumption) (by assumption)).1) | (exact ((SAi_preH hI p1 p2 hs (by assumption)).2 _ (by assumption) (by assumption) (by assumption)).2.1) | (exact ((SAi_preH hI p1 p2 hs (by assumption)).2 _ (by assumption) (by assumption) (by assumption)).2.2) | (exact h _ (SAi_end (SAi_step hI p1 p2 hs (by assumption) (by assumption)) p1 p2 (by simp [up_ap]; omega))) | (exact h _ (SAi_16 (SAi_step hI p1 p2 hs (by assumption) (by assumption)) p1 p2 (by simp [up_ap]; omega))) | (exact SAi_step hI p1 p2 hs (by assumption) (by assumption)) | (exact h _ (SAi_bk hI p1 p2 hs (by assumption)))
          · exact hi.elim
        · cases hcut
      · simp only [wp, stp, drp, entL, eL, lget, lset, okst, cnd, swt, rcv, Kr_int, Kr_bool, Kr_void, List.length_cons, List.length_nil, List.replicate, List.append_nil, List.cons_append, List.nil_append, List.take_succ_cons, List.take_zero, List.drop_succ_cons, List.drop_zero, List.reverse_cons, List.reverse_nil, Option.map_some, Option.map_none, Option.toList_some, Option.toList_none, Nat.reduceAdd, Nat.reduceSub, Nat.reduceLT, Nat.reduceLeDiff, Nat.reduceEqDiff, ↓reduceIte, Nat.add_zero, Nat.zero_add, true_and, and_true, Nat.le_refl, reduceCtorEq, false_implies, true_implies, not_true_eq_false, not_false_eq_true, Int.reduceAdd, Int.reduceSub, Int.reduceMul, Int.reduceLE, Int.reduceLT, Int.reduceEq, Int.reduceNe, Int.reduceNeg, Int.reduceDiv, Int.reduceMod, Bool.false_eq_true, Int.le_refl, and_self, true_or, or_true, inR_l, fv0, fv1, fv2, fv3, nc2, nc4, nc6, nc16, nc25, nc60, nc65, nc80, nc130, nc384, nc390, fp_0_0, fp_0_1, fp_0_2, fp_1_0, fp_1_1, fp_1_2, fp_1_3, fp_1_4, fp_1_5, fp_1_6, fp_1_7, fp_1_8, fp_1_9, fp_1_10, fp_1_11, fp_1_12, fp_1_13, fp_1_14, fp_2_0, fp_2_1, fp_2_2, fp_2_3, fp_3_0, fp_3_1, fp_4_0, fp_4_1, fp_4_2, fp_4_3, fp_4_4, fp_4_5, fp_4_6, fp_4_7, fp_5_0, fp_5_1, fp_5_2, fp_5_3, fp_5_4, fp_5_5, fp_5_6, fp_5_7, fp_6_0, fp_6_1, fp_6_2, fp_6_3, fp_6_4, fp_6_5, fp_6_6, fp_6_7, fp_6_8, fp_6_9, fp_6_10, fp_6_11, fp_6_12, fp_6_13, fp_6_14, fp_6_15, fp_7_0, fp_7_1, fp_7_2, fp_7_3, fp_7_4, fp_7_5, fp_7_6, fp_7_7, fp_7_8, fp_7_9, fp_7_10, fp_7_11, fp_7_12, fp_7_13, fp_7_14, fp_7_15, fp_7_16, fp_7_17, fp_7_18, fp_7_19, fp_7_20, fp_7_21, fp_7_22, fp_7_23, fp_7_24, iz_0_1, iz_0_2, iz_1_8, iz_1_9, iz_1_11, iz_2_1, iz_2_2, iz_2_3, iz_3_1, iz_4_1, iz_4_2, iz_5_0, iz_6_8, iz_6_9, iz_6_13, iz_6_14, iz_6_15, iz_7_2, iz_7_6, iz_7_12, iz_7_20, iz_7_21, iz_7_23, iz_7_24, ak_8, ak_9, ak_10, ak_11, ak_12, ak_13, ak_14, ak_15, ak_16, ak_17, ak_18, ak_19, ak_20, ak_21, ak_22, ak_23, ak_24, ak_25, ak_26, ak_27, ak_28, ak_29, ak_30, ak_31, ak_32, ak_33, ak_34, ak_35, ak_36, ak_37, ak_38, ak_39, ak_40, ak_41, ak_42, ak_43, ak_44, ak_45, ak_46, ak_47, ak_48, ak_49, ak_50, ak_51, ak_52, ak_53, ak_54, ak_55, ak_56, el31, el33, el34, CX1_sortAlong, ca_X1_sortAlong, frX1, kcX1, klX1, T_X1_headOf, up_ap, false_and, and_false, if_false, if_true, ite_true, ite_false, exists_eq_right_right, exists_eq_right, exists_eq_left, Nat.lt_irrefl, and_self, implies_true, forall_const]
        obtain ⟨⟨p1, p2, p3, p4, p5⟩, h⟩ := h
        (repeat' (first | (with_reducible intro _) | (with_reducible refine And.intro ?_ ?_)))
        all_goals (try first | omega | exact ⟨by omega, by omega⟩)
        all_goals first | (exact h _ (SAi_end (SAi_0 p3 p4 p5) p1 p2 (by assumption))) | (exact h _ (SAi_16 (SAi_0 p3 p4 p5) p1 p2 (by assumption))) | (exact SAi_0 p3 p4 p5)
    · exact h.elim
end
section
def ca_X1_measure : Nat → Option (Nat × Nat × Tr)
  | 95 => some (2, 1, T_X1_sortAlong)
  | 99 => some (2, 1, T_X1_tailOf)
  | 86 => some (2, 1, T_X1_endOf)
  | _ => none
theorem cao_X1_measure (l : Launch) : ∀ k n' ci T', ca_X1_measure k = some (n', ci, T') → ∃ nn, nn + 1 ≤ 2 ∧ Site l yX1_measure.cls k n' ci nn T' := by
  intro k n' ci T' h
  unfold ca_X1_measure at h
  split at h
  · cases h; exact ⟨1, by decide, _, _, _, _, k_X1_sortAlong l, Or.inl ⟨_, rfl, FX1_sortAlong, KRX1_95⟩⟩
  · cases h; exact ⟨0, by decide, _, _, _, _, k_X1_tailOf l, Or.inl ⟨_, rfl, FX1_tailOf, KRX1_99⟩⟩
  · cases h; exact ⟨0, by decide, _, _, _, _, k_X1_endOf l, Or.inl ⟨_, rfl, FX1_endOf, KRX1_86⟩⟩
  · cases h
def T_X1_measure : Tr := fun a σ K => match a with
  | [.inr (.inl (1, n))] => (nB σ n ∧ nA σ n ∧ nO σ n) ∧ (∀ σ', Frm n σ σ' → nM σ' n → K (some 1) σ') ∧ (∀ σ', Frm n σ σ' → nN σ n → K (some 0) σ')
  | _ => False
set_option maxHeartbeats 8000000 in
set_option maxRecDepth 20000 in
theorem k_X1_measure (l : Launch) : Ct l yX1_measure cX1_measure 5 (some .boolean) 2 T_X1_measure := by
  refine mk_met (by decide +kernel) hCX1_measure lCX1_measure frX1_ok cstX1_ok (cao_X1_measure l) ?_ ?_
  · intro a σ K h
    unfold T_X1_measure at h
    split at h
    · simp [eL]
    · exact h.elim
  · intro a σ K ha hR h
    unfold T_X1_measure at h
    split at h
    · rename_i n
      refine ⟨fun pc => if pc = 49 then some (fun L S σ' k => match L, S with | [some (.inr (.inl c1)), some (.inl nw), some (.inl rd), _, _], [] => (c1 = (1, n) ∧ MRi n σ σ' nw rd) ∧ k = (16 - rd).toNat + 100 | _, _ => False) else if pc = 130 then some (fun L S σ' k => match L, S with | [some (.inr (.inl c1)), some (.inl x0), some (.inl i), _, _], [] => (c1 = (1, n) ∧ MTi n σ σ' i) ∧ k = (i + 1).toNat | _, _ => False) else none, 200, ?_, ?_⟩
      · intro pc I L S σ' k hcut hi
        dsimp only at hcut
        split at hcut
        · rename_i hpc
          subst hpc
          cases hcut
          try dsimp only at hi
          split at hi
          · rename_i c1 nw rd x1 x2
            obtain ⟨hi, rfl⟩ := hi
            obtain ⟨rfl, hI⟩ := hi
            obtain ⟨⟨p1, p2, p3⟩, h, hn⟩ := h
            simp only [wp, stp, drp, entL, eL, lget, lset, okst, cnd, swt, rcv, Kr_int, Kr_bool, Kr_void, List.length_cons, List.length_nil, List.replicate, List.append_nil, List.cons_append, List.nil_append, List.take_succ_cons, List.take_zero, List.drop_succ_cons, List.drop_zero, List.reverse_cons, List.reverse_nil, Option.map_some, Option.map_none, Option.toList_some, Option.toList_none, Nat.reduceAdd, Nat.reduceSub, Nat.reduceLT, Nat.reduceLeDiff, Nat.reduceEqDiff, ↓reduceIte, Nat.add_zero, Nat.zero_add, true_and, and_true, Nat.le_refl, reduceCtorEq, false_implies, true_implies, not_true_eq_false, not_false_eq_true, Int.reduceAdd, Int.reduceSub, Int.reduceMul, Int.reduceLE, Int.reduceLT, Int.reduceEq, Int.reduceNe, Int.reduceNeg, Int.reduceDiv, Int.reduceMod, Bool.false_eq_true, Int.le_refl, and_self, true_or, or_true, inR_l, fv0, fv1, fv2, fv3, nc2, nc4, nc6, nc16, nc25, nc60, nc65, nc80, nc130, nc384, nc390, fp_0_0, fp_0_1, fp_0_2, fp_1_0, fp_1_1, fp_1_2, fp_1_3, fp_1_4, fp_1_5, fp_1_6, fp_1_7, fp_1_8, fp_1_9, fp_1_10, fp_1_11, fp_1_12, fp_1_13, fp_1_14, fp_2_0, fp_2_1, fp_2_2, fp_2_3, fp_3_0, fp_3_1, fp_4_0, fp_4_1, fp_4_2, fp_4_3, fp_4_4, fp_4_5, fp_4_6, fp_4_7, fp_5_0, fp_5_1, fp_5_2, fp_5_3, fp_5_4, fp_5_5, fp_5_6, fp_5_7, fp_6_0, fp_6_1, fp_6_2, fp_6_3, fp_6_4, fp_6_5, fp_6_6, fp_6_7, fp_6_8, fp_6_9, fp_6_10, fp_6_11, fp_6_12, fp_6_13, fp_6_14, fp_6_15, fp_7_0, fp_7_1, fp_7_2, fp_7_3, fp_7_4, fp_7_5, fp_7_6, fp_7_7, fp_7_8, fp_7_9, fp_7_10, fp_7_11, fp_7_12, fp_7_13, fp_7_14, fp_7_15, fp_7_16, fp_7_17, fp_7_18, fp_7_19, fp_7_20, fp_7_21, fp_7_22, fp_7_23, fp_7_24, iz_0_1, iz_0_2, iz_1_8, iz_1_9, iz_1_11, iz_2_1, iz_2_2, iz_2_3, iz_3_1, iz_4_1, iz_4_2, iz_5_0, iz_6_8, iz_6_9, iz_6_13, iz_6_14, iz_6_15, iz_7_2, iz_7_6, iz_7_12, iz_7_20, iz_7_21, iz_7_23, iz_7_24, ak_8, ak_9, ak_10, ak_11, ak_12, ak_13, ak_14, ak_15, ak_16, ak_17, ak_18, ak_19, ak_20, ak_21, ak_22, ak_23, ak_24, ak_25, ak_26, ak_27, ak_28, ak_29, ak_30, ak_31, ak_32, ak_33, ak_34, ak_35, ak_36, ak_37, ak_38, ak_39, ak_40, ak_41, ak_42, ak_43, ak_44, ak_45, ak_46, ak_47, ak_48, ak_49, ak_50, ak_51, ak_52, ak_53, ak_54, ak_55, ak_56, el31, el33, el34, CX1_measure, ca_X1_measure, frX1, kcX1, klX1, T_X1_sortAlong, T_X1_tailOf, T_X1_endOf, up_ap, false_and, and_false, if_false, if_true, ite_true, ite_false, exists_eq_right_right, exists_eq_right, exists_eq_left, Nat.lt_irrefl, and_self, implies_true, forall_const]
            obtain ⟨q1, q2, q3⟩ := SI_16 hI.2.2.1 hI.2.1
            have q4 := hI.2.2.2.2.1
            have q5 := hI.2.2.2.2.2.1
            (repeat' (first | (with_reducible intro _) | (with_reducible refine And.intro ?_ ?_)))
            all_goals (try first | omega | exact ⟨by omega, by omega⟩)
            all_goals first | (exact MTi_0 hI p3 (by omega)) | (exact hn _ hI.1 (MRi_no hI p3 (by omega) (by omega))) | (exact hI.2.2.1) | (exact hI.2.2.2.1) | (exact hI.2.1) | (exact (‹SAr n 0 σ' _›.1.B hI.2.2.1)) | (exact (‹SAr n 0 σ' _›.1.A hI.2.2.2.1)) | (exact ‹SAr n 0 σ' _›.2.1) | (exact (‹SAr n 1 _ _›.1.B (‹SAr n 0 σ' _›.1.B hI.2.2.1))) | (exact (‹SAr n 1 _ _›.1.A (‹SAr n 0 σ' _›.1.A hI.2.2.2.1))) | (exact ‹SAr n 1 _ _›.2.1) | (exact (‹SAr n 2 _ _›.1.B (‹SAr n 1 _ _›.1.B (‹SAr n 0 σ' _›.1.B hI.2.2.1)))) | (exact (‹SAr n 2 _ _›.1.A (‹SAr n 1 _ _›.1.A (‹SAr n 0 σ' _›.1.A hI.2.2.2.1)))) | (exact ‹SAr n 2 _ _›.2.1) | (exact (MRi_step hI (by assumption) (by assumption) (by assumption) (by assumption) (by assumption) (by assumption)).1 (by assumption)) | (exact (MRi_step hI (by assumption) (by assumption) (by assumption) (by assumption) (by assumption) (by assumption)).2 (by assumption))
          · exact hi.elim
        · split at hcut
          · rename_i hpc
            subst hpc
            cases hcut
            try dsimp only at hi
            split at hi
            · rename_i c1 x0 i x1 x2
              obtain ⟨hi, rfl⟩ := hi
              obtain ⟨rfl, hI⟩ := hi
              obtain ⟨⟨p1, p2, p3⟩, h, hn⟩ := h
              simp only [wp, stp, drp, entL, eL, lget, lset, okst, cnd, swt, rcv, Kr_int, Kr_bool, Kr_void, List.length_cons, List.length_nil, List.replicate, List.append_nil, List.cons_append, List.nil_append, List.take_succ_cons, List.take_zero, List.drop_succ_cons, List.drop_zero, List.reverse_cons, List.reverse_nil, Option.map_some, Option.map_none, Option.toList_some, Option.toList_none, Nat.reduceAdd, Nat.reduceSub, Nat.reduceLT, Nat.reduceLeDiff, Nat.reduceEqDiff, ↓reduceIte, Nat.add_zero, Nat.zero_add, true_and, and_true, Nat.le_refl, reduceCtorEq, false_implies, true_implies, not_true_eq_false, not_false_eq_true, Int.reduceAdd, Int.reduceSub, Int.reduceMul, Int.reduceLE, Int.reduceLT, Int.reduceEq, Int.reduceNe, Int.reduceNeg, Int.reduceDiv, Int.reduceMod, Bool.false_eq_true, Int.le_refl, and_self, true_or, or_true, inR_l, fv0, fv1, fv2, fv3, nc2, nc4, nc6, nc16, nc25, nc60, nc65, nc80, nc130, nc384, nc390, fp_0_0, fp_0_1, fp_0_2, fp_1_0, fp_1_1, fp_1_2, fp_1_3, fp_1_4, fp_1_5, fp_1_6, fp_1_7, fp_1_8, fp_1_9, fp_1_10, fp_1_11, fp_1_12, fp_1_13, fp_1_14, fp_2_0, fp_2_1, fp_2_2, fp_2_3, fp_3_0, fp_3_1, fp_4_0, fp_4_1, fp_4_2, fp_4_3, fp_4_4, fp_4_5, fp_4_6, fp_4_7, fp_5_0, fp_5_1, fp_5_2, fp_5_3, fp_5_4, fp_5_5, fp_5_6, fp_5_7, fp_6_0, fp_6_1, fp_6_2, fp_6_3, fp_6_4, fp_6_5, fp_6_6, fp_6_7, fp_6_8, fp_6_9, fp_6_10, fp_6_11, fp_6_12, fp_6_13, fp_6_14, fp_6_15, fp_7_0, fp_7_1, fp_7_2, fp_7_3, fp_7_4, fp_7_5, fp_7_6, fp_7_7, fp_7_8, fp_7_9, fp_7_10, fp_7_11, fp_7_12, fp_7_13, fp_7_14, fp_7_15, fp_7_16, fp_7_17, fp_7_18, fp_7_19, fp_7_20, fp_7_21, fp_7_22, fp_7_23, fp_7_24, iz_0_1, iz_0_2, iz_1_8, iz_1_9, iz_1_11, iz_2_1, iz_2_2, iz_2_3, iz_3_1, iz_4_1, iz_4_2, iz_5_0, iz_6_8, iz_6_9, iz_6_13, iz_6_14, iz_6_15, iz_7_2, iz_7_6, iz_7_12, iz_7_20, iz_7_21, iz_7_23, iz_7_24, ak_8, ak_9, ak_10, ak_11, ak_12, ak_13, ak_14, ak_15, ak_16, ak_17, ak_18, ak_19, ak_20, ak_21, ak_22, ak_23, ak_24, ak_25, ak_26, ak_27, ak_28, ak_29, ak_30, ak_31, ak_32, ak_33, ak_34, ak_35, ak_36, ak_37, ak_38, ak_39, ak_40, ak_41, ak_42, ak_43, ak_44, ak_45, ak_46, ak_47, ak_48, ak_49, ak_50, ak_51, ak_52, ak_53, ak_54, ak_55, ak_56, el31, el33, el34, CX1_measure, ca_X1_measure, frX1, kcX1, klX1, T_X1_sortAlong, T_X1_tailOf, T_X1_endOf, up_ap, false_and, and_false, if_false, if_true, ite_true, ite_false, exists_eq_right_right, exists_eq_right, exists_eq_left, Nat.lt_irrefl, and_self, implies_true, forall_const]
              by_cases hi0 : 0 ≤ i
              · obtain ⟨q1, q2, q3, q4, q5, q6, q7⟩ := MTi_pre hI hi0
                obtain ⟨-, hv⟩ := MTi_v hI hi0
                (repeat' (first | (with_reducible intro _) | (with_reducible refine And.intro ?_ ?_)))
                all_goals (try first | omega | exact ⟨by omega, by omega⟩)
                all_goals first | (exfalso; omega) | (exact (q6 (by assumption)).1) | (exact (q6 (by assumption)).2) | (exact (q7 _ (by assumption) (by assumption)).1) | (exact (q7 _ (by assumption) (by assumption)).2 (by assumption) (by assumption)) | (exact ⟨by have := MTi_r hI hi0 (by assumption); omega, by have := MTi_r hI hi0 (by assumption); omega⟩) | (exact MTi_step hI hi0 (by assumption) (by rw [if_pos (by assumption)])) | (exact MTi_step hI hi0 (by assumption) (by rw [if_neg (by assumption)]))
              · have he := MTi_end hI hi0
                (repeat' (first | (with_reducible intro _) | (with_reducible refine And.intro ?_ ?_)))
                all_goals (try first | omega | exact ⟨by omega, by omega⟩)
                all_goals first | (exact h _ he.1 he.2) | (exfalso; omega)
            · exact hi.elim
          · cases hcut
      · simp only [wp, stp, drp, entL, eL, lget, lset, okst, cnd, swt, rcv, Kr_int, Kr_bool, Kr_void, List.length_cons, List.length_nil, List.replicate, List.append_nil, List.cons_append, List.nil_append, List.take_succ_cons, List.take_zero, List.drop_succ_cons, List.drop_zero, List.reverse_cons, List.reverse_nil, Option.map_some, Option.map_none, Option.toList_some, Option.toList_none, Nat.reduceAdd, Nat.reduceSub, Nat.reduceLT, Nat.reduceLeDiff, Nat.reduceEqDiff, ↓reduceIte, Nat.add_zero, Nat.zero_add, true_and, and_true, Nat.le_refl, reduceCtorEq, false_implies, true_implies, not_true_eq_false, not_false_eq_true, Int.reduceAdd, Int.reduceSub, Int.reduceMul, Int.reduceLE, Int.reduceLT, Int.reduceEq, Int.reduceNe, Int.reduceNeg, Int.reduceDiv, Int.reduceMod, Bool.false_eq_true, Int.le_refl, and_self, true_or, or_true, inR_l, fv0, fv1, fv2, fv3, nc2, nc4, nc6, nc16, nc25, nc60, nc65, nc80, nc130, nc384, nc390, fp_0_0, fp_0_1, fp_0_2, fp_1_0, fp_1_1, fp_1_2, fp_1_3, fp_1_4, fp_1_5, fp_1_6, fp_1_7, fp_1_8, fp_1_9, fp_1_10, fp_1_11, fp_1_12, fp_1_13, fp_1_14, fp_2_0, fp_2_1, fp_2_2, fp_2_3, fp_3_0, fp_3_1, fp_4_0, fp_4_1, fp_4_2, fp_4_3, fp_4_4, fp_4_5, fp_4_6, fp_4_7, fp_5_0, fp_5_1, fp_5_2, fp_5_3, fp_5_4, fp_5_5, fp_5_6, fp_5_7, fp_6_0, fp_6_1, fp_6_2, fp_6_3, fp_6_4, fp_6_5, fp_6_6, fp_6_7, fp_6_8, fp_6_9, fp_6_10, fp_6_11, fp_6_12, fp_6_13, fp_6_14, fp_6_15, fp_7_0, fp_7_1, fp_7_2, fp_7_3, fp_7_4, fp_7_5, fp_7_6, fp_7_7, fp_7_8, fp_7_9, fp_7_10, fp_7_11, fp_7_12, fp_7_13, fp_7_14, fp_7_15, fp_7_16, fp_7_17, fp_7_18, fp_7_19, fp_7_20, fp_7_21, fp_7_22, fp_7_23, fp_7_24, iz_0_1, iz_0_2, iz_1_8, iz_1_9, iz_1_11, iz_2_1, iz_2_2, iz_2_3, iz_3_1, iz_4_1, iz_4_2, iz_5_0, iz_6_8, iz_6_9, iz_6_13, iz_6_14, iz_6_15, iz_7_2, iz_7_6, iz_7_12, iz_7_20, iz_7_21, iz_7_23, iz_7_24, ak_8, ak_9, ak_10, ak_11, ak_12, ak_13, ak_14, ak_15, ak_16, ak_17, ak_18, ak_19, ak_20, ak_21, ak_22, ak_23, ak_24, ak_25, ak_26, ak_27, ak_28, ak_29, ak_30, ak_31, ak_32, ak_33, ak_34, ak_35, ak_36, ak_37, ak_38, ak_39, ak_40, ak_41, ak_42, ak_43, ak_44, ak_45, ak_46, ak_47, ak_48, ak_49, ak_50, ak_51, ak_52, ak_53, ak_54, ak_55, ak_56, el31, el33, el34, CX1_measure, ca_X1_measure, frX1, kcX1, klX1, T_X1_sortAlong, T_X1_tailOf, T_X1_endOf, up_ap, false_and, and_false, if_false, if_true, ite_true, ite_false, exists_eq_right_right, exists_eq_right, exists_eq_left, Nat.lt_irrefl, and_self, implies_true, forall_const]
        obtain ⟨⟨p1, p2, p3⟩, h, hn⟩ := h
        exact MRi_0 p1 p2 (((((((((Frm.r.u (by omega)).u (by omega)).u (by omega)).u (by omega)).u (by omega)).u (by omega)).u (by omega)).u (by omega)).u (by omega)) (fun j j0 j1 => by rcases (show j = 0 ∨ j = 1 ∨ j = 2 ∨ j = 3 by omega) with rfl | rfl | rfl | rfl <;> simp [up_ap]) (fun j j0 j1 => by rcases (show j = 0 ∨ j = 1 ∨ j = 2 ∨ j = 3 by omega) with rfl | rfl | rfl | rfl <;> simp [up_ap]) (by simp [up_ap])
    · exact h.elim
end
section
/-- nothing is different but where P allows it -/
def FrG (P : Nat → Nat → Int → Prop) (σ σ' : Mem) : Prop := ∀ t a x, ¬ P t a x → σ' t a x = σ t a x
theorem FrG.r {P : Nat → Nat → Int → Prop} {σ : Mem} : FrG P σ σ := fun _ _ _ _ => rfl
theorem FrG.t {P : Nat → Nat → Int → Prop} {σ σ' σ2 : Mem} (h : FrG P σ σ') (h2 : FrG P σ' σ2) : FrG P σ σ2 := fun t a x q => by rw [h2 t a x q, h t a x q]
theorem FrG.w {P Q : Nat → Nat → Int → Prop} {σ σ' : Mem} (h : FrG P σ σ') (hw : ∀ t a x, P t a x → Q t a x) : FrG Q σ σ' := fun t a x q => h t a x (fun p => q (hw t a x p))
theorem FrG.f {P : Nat → Nat → Int → Prop} {σ σ' : Mem} (h : FrG P σ σ') (t a : Nat) (ht : ∀ x, ¬ P t a x) : σ' t a = σ t a := funext fun x => h t a x (ht x)
theorem FrG.u {P : Nat → Nat → Int → Prop} {σ σ' : Mem} (h : FrG P σ σ') {t a : Nat} {x v : Int} (ht : P t a x) : FrG P σ (up σ' t a x v) := by
  intro t' a' x' q
  rw [up_ap, if_neg, h t' a' x' q]
  rintro ⟨rfl, rfl, rfl⟩
  exact q ht
/-- a state's routes -/
def stB (σ : Mem) (i : Nat) : Prop := (∀ j, 0 ≤ j → j < 4 → 0 ≤ σ 10 i j ∧ σ 10 i j ≤ 4) ∧ (∀ o, vOp (σ 10 i) o → 0 ≤ σ 11 i o ∧ σ 11 i o < 4 ∧ 1 ≤ σ 12 i o ∧ σ 12 i o ≤ 20 ∧ 0 ≤ σ 8 i (o / 4) ∧ σ 8 i (o / 4) ≤ 50) ∧ (∀ o o', vOp (σ 10 i) o → vOp (σ 10 i) o' → o / 4 = o' / 4 → σ 11 i o = σ 11 i o' → o = o')
def pL (n : Nat) (t a : Nat) (x : Int) : Prop := a = n ∧ (t = 15 ∨ t = 16 ∨ t = 17 ∨ t = 18 ∨ t = 19 ∨ t = 20 ∨ (t = 1 ∧ x = 9))
/-- load: the operations of the first j jobs, and the first s ones of the job j -/
def vL (σ : Mem) (i : Nat) (j s o : Int) : Prop := vOp (σ 10 i) o ∧ (o / 4 < j ∨ (o / 4 = j ∧ o % 4 < s))
def LD0 (σ σ' : Mem) (n : Nat) (x : Int) : Prop := FrG (pL n) σ σ' ∧ σ' 1 n 9 = 0 ∧ ∀ y, 0 ≤ y → y < x → σ' 19 n y = -6 ∧ σ' 20 n y = 0
def LD (σ σ' : Mem) (n i : Nat) (j s : Int) : Prop := FrG (pL n) σ σ' ∧ (∀ y, 0 ≤ y → y < 4 → σ' 15 n y = σ 10 i y) ∧ (∀ y, 0 ≤ y → y < 16 → σ' 20 n y = 0) ∧ (∀ o, vL σ i j s o → σ' 16 n o = σ 11 i o ∧ σ' 17 n o = σ 12 i o ∧ σ' 18 n o = σ 8 i (o / 4) ∧ σ' 19 n (4 * σ 11 i o + o / 4) = o) ∧ (∀ y, 0 ≤ y → y < 16 → σ' 19 n y = -6 ∨ ∃ o, vL σ i j s o ∧ y = 4 * σ 11 i o + o / 4 ∧ σ' 19 n y = o) ∧ σ' 1 n 9 = wF (σ 10 i) 0 j + s
theorem LD0_0 {σ : Mem} {n : Nat} : LD0 σ (up σ 1 n 9 0) n 0 := ⟨FrG.r.u ⟨rfl, by omega⟩, by rw [up_ap, if_pos ⟨rfl, rfl, rfl⟩], fun y a b => by omega⟩
theorem LD0_s {σ σ' : Mem} {n : Nat} {x : Int} (h : LD0 σ σ' n x) : LD0 σ (up (up σ' 19 n x (-6)) 20 n x 0) n (x + 1) := by
  obtain ⟨a1, a2, a3⟩ := h
  refine ⟨(a1.u ⟨rfl, by omega⟩).u ⟨rfl, by omega⟩, ?_, fun y y0 y1 => ?_⟩
  · simpa [up_ap] using a2
  · by_cases q : y = x
    · simp [up_ap, q]
    · have := a3 y y0 (by omega)
      simp [up_ap, q]
      exact this
theorem LD_0 {σ σ' σ2 : Mem} {n i : Nat} {x : Int} (h : LD0 σ σ' n x) (hx : 16 ≤ x) (h1 : ∀ t a y, (t ≠ 15 ∨ a ≠ n) → σ2 t a y = σ' t a y) (h2 : ∀ y, 0 ≤ y → y < 4 → σ2 15 n y = σ' 10 i y) : LD σ σ2 n i 0 0 := by
  obtain ⟨a1, a2, a3⟩ := h
  refine ⟨a1.t (fun t a y q => h1 t a y ?_), fun y y0 y1 => ?_, fun y y0 y1 => ?_, fun o v => ?_, fun y y0 y1 => ?_, ?_⟩
  · exact Classical.byContradiction fun c => q (by
      have h3 : t = 15 := Classical.byContradiction fun e => c (Or.inl e)
      have h4 : a = n := Classical.byContradiction fun e => c (Or.inr e)
      exact ⟨h4, Or.inl h3⟩)
  · rw [h2 y y0 y1]
    exact a1 10 i y (by rintro ⟨-, q⟩; omega)
  · rw [h1 20 n y (by omega)]
    exact (a3 y y0 (by omega)).2
  · obtain ⟨v1, v2⟩ := v
    have := v1.1
    omega
  · rw [h1 19 n y (by omega)]
    exact Or.inl (a3 y y0 (by omega)).1
  · rw [h1 1 n 9 (by omega), a2, wF_0]
    rfl
theorem LD_next {σ σ' : Mem} {n i : Nat} {j s : Int} (h : LD σ σ' n i j s) (j0 : 0 ≤ j) (j1 : j < 4) (hs : s ≤ σ 10 i j) (he : σ 10 i j ≤ s) : LD σ σ' n i (j + 1) 0 := by
  obtain ⟨a1, a2, a3, a4, a5, a6⟩ := h
  have V : ∀ o, vL σ i (j + 1) 0 o ↔ vL σ i j s o := by
    intro o
    constructor
    · rintro ⟨v, q⟩
      refine ⟨v, ?_⟩
      rcases (show o / 4 < j ∨ o / 4 = j by omega) with c | c
      · exact Or.inl c
      · have := v.2.2
        rw [c] at this
        exact Or.inr ⟨c, by omega⟩
    · rintro ⟨v, q⟩
      exact ⟨v, by omega⟩
  refine ⟨a1, a2, a3, fun o v => a4 o ((V o).mp v), fun y y0 y1 => ?_, ?_⟩
  · rcases a5 y y0 y1 with q | ⟨o, v, q⟩
    · exact Or.inl q
    · exact Or.inr ⟨o, (V o).mpr v, q⟩
  · have := wF_s (σ 10 i) 0 j j0 j1
    rw [Int.zero_add] at this
    omega
theorem LD_step {σ σ' : Mem} {n i : Nat} {j s : Int} (hB : stB σ i) (h : LD σ σ' n i j s) (j0 : 0 ≤ j) (j1 : j < 4) (s0 : 0 ≤ s) (he : s < σ 10 i j) : LD σ (up (up (up (up (up σ' 16 n (4 * j + s) (σ' 11 i (4 * j + s))) 17 n (4 * j + s) (σ' 12 i (4 * j + s))) 18 n (4 * j + s) (σ' 8 i j)) 19 n (4 * σ' 11 i (4 * j + s) + j) (4 * j + s)) 1 n 9 (σ' 1 n 9 + 1)) n i j (s + 1) := by
  obtain ⟨a1, a2, a3, a4, a5, a6⟩ := h
  have e11 : ∀ x, σ' 11 i x = σ 11 i x := fun x => a1 11 i x (by rintro ⟨-, q⟩; omega)
  have e12 : ∀ x, σ' 12 i x = σ 12 i x := fun x => a1 12 i x (by rintro ⟨-, q⟩; omega)
  have e8 : ∀ x, σ' 8 i x = σ 8 i x := fun x => a1 8 i x (by rintro ⟨-, q⟩; omega)
  have hst := hB.1 j j0 j1
  have oj : (4 * j + s) / 4 = j := by omega
  have om : (4 * j + s) % 4 = s := by omega
  have hv : vOp (σ 10 i) (4 * j + s) := ⟨by omega, by omega, by rw [oj, om]; exact he⟩
  have V : ∀ o, vL σ i j (s + 1) o ↔ vL σ i j s o ∨ o = 4 * j + s := by
    intro o
    constructor
    · rintro ⟨v, q⟩
      rcases (show (o / 4 < j ∨ (o / 4 = j ∧ o % 4 < s)) ∨ o = 4 * j + s by omega) with c | c
      · exact Or.inl ⟨v, c⟩
      · exact Or.inr c
    · rintro (⟨v, q⟩ | q)
      · exact ⟨v, by omega⟩
      · subst q
        exact ⟨hv, by omega⟩
  have nv : ∀ o, vL σ i j s o → o ≠ 4 * j + s := by
    rintro o ⟨v, q⟩ rfl
    omega
  have hinj : ∀ o, vL σ i j s o → 4 * σ 11 i o + o / 4 ≠ 4 * σ 11 i (4 * j + s) + j := by
    intro o v e
    have h1 := vOp_j v.1
    have h2 : o / 4 = j := by omega
    have h3 := hB.2.2 o (4 * j + s) v.1 hv (by omega) (by omega)
    exact nv o v h3
  refine ⟨((((a1.u ⟨rfl, by omega⟩).u ⟨rfl, by omega⟩).u ⟨rfl, by omega⟩).u ⟨rfl, by omega⟩).u ⟨rfl, by omega⟩, fun y y0 y1 => ?_, fun y y0 y1 => ?_, fun o v => ?_, fun y y0 y1 => ?_, ?_⟩
  · simp [up_ap]
    exact a2 y y0 y1
  · simp [up_ap]
    exact a3 y y0 y1
  · rw [V] at v
    simp only [e11, e12, e8]
    rcases v with v | v
    · have h1 := nv o v
      have h2 := hinj o v
      simp [up_ap, h1, h2]
      exact a4 o v
    · subst v
      simp [up_ap, oj]
  · simp only [e11, e12, e8]
    by_cases q : y = 4 * σ 11 i (4 * j + s) + j
    · refine Or.inr ⟨4 * j + s, (V _).mpr (Or.inr rfl), by rw [oj]; exact q, ?_⟩
      simp [up_ap, q]
    · rcases a5 y y0 y1 with c | ⟨o, v, c1, c2⟩
      · left
        simp [up_ap, q]
        exact c
      · refine Or.inr ⟨o, (V _).mpr (Or.inl v), c1, ?_⟩
        simp [up_ap, q]
        exact c2
  · simp [up_ap]
    omega
/-- what load does -/
def Lod (n i : Nat) (σ σ' : Mem) : Prop := FrG (pL n) σ σ' ∧ nB σ' n ∧ nA σ' n ∧ nO σ' n ∧ (∀ j, 0 ≤ j → j < 4 → σ' 15 n j = σ 10 i j) ∧ (∀ o, vOp (σ 10 i) o → σ' 16 n o = σ 11 i o ∧ σ' 17 n o = σ 12 i o ∧ σ' 18 n o = σ 8 i (o / 4)) ∧ (∀ o, 0 ≤ o → o < 16 → σ' 20 n o = 0)
theorem vOp_cg {f g : Int → Int} (h : ∀ j, 0 ≤ j → j < 4 → f j = g j) (o : Int) : vOp f o ↔ vOp g o := by
  constructor
  · rintro ⟨a, b, c⟩
    exact ⟨a, b, by rw [← h (o / 4) (by omega) (by omega)]; exact c⟩
  · rintro ⟨a, b, c⟩
    exact ⟨a, b, by rw [h (o / 4) (by omega) (by omega)]; exact c⟩
theorem LD_end {σ σ' : Mem} {n i : Nat} {j : Int} (hB : stB σ i) (h : LD σ σ' n i j 0) (hj : 4 ≤ j) (hj2 : j ≤ 4) : Lod n i σ σ' := by
  obtain ⟨a1, a2, a3, a4, a5, a6⟩ := h
  have V : ∀ o, vL σ i j 0 o ↔ vOp (σ 10 i) o := by
    intro o
    constructor
    · exact fun v => v.1
    · intro v
      have := vOp_j v
      exact ⟨v, by omega⟩
  have W : ∀ o, vOp (σ' 15 n) o ↔ vOp (σ 10 i) o := vOp_cg a2
  refine ⟨a1, ⟨fun k k0 k1 => ?_, fun o v => ?_, fun m k m0 m1 k0 k1 q => ?_⟩, fun o v => ?_, ?_, a2, fun o v => ?_, a3⟩
  · rw [a2 k k0 k1]
    exact hB.1 k k0 k1
  · rw [W] at v
    obtain ⟨b1, b2, b3, b4⟩ := a4 o ((V o).mpr v)
    have := hB.2.1 o v
    rw [b1, b2, b3]
    exact ⟨this.1, this.2.1, this.2.2.1, this.2.2.2.1, this.2.2.2.2.1, by omega, b4⟩
  · rcases a5 (4 * m + k) (by omega) (by omega) with c | ⟨o, v, c1, c2⟩
    · omega
    · rw [c2]
      have v' := (V o).mp v
      have hj' := vOp_j v'
      have hm := hB.2.1 o v'
      refine ⟨(W o).mpr v', ?_, by omega⟩
      rw [(a4 o v).1]
      omega
  · have v' := (W o).mp v
    rw [a3 o v'.1 v'.2.1]
    exact ⟨by omega, by omega, fun k k0 k1 q => absurd q (bit_0 k0 k1)⟩
  · unfold nO
    rw [a6, a2 0 (by omega) (by omega), a2 1 (by omega) (by omega), a2 2 (by omega) (by omega), a2 3 (by omega) (by omega), show j = 4 by omega]
    simp [wF]
  · obtain ⟨b1, b2, b3, b4⟩ := a4 o ((V o).mpr v)
    exact ⟨b1, b2, b3⟩
end
section
def ca_X1_load : Nat → Option (Nat × Nat × Tr)
  | 55 => some (2, 99, T_X6_copyRow)
  | _ => none
theorem cao_X1_load (l : Launch) : ∀ k n' ci T', ca_X1_load k = some (n', ci, T') → ∃ nn, nn + 1 ≤ 1 ∧ Site l yX1_load.cls k n' ci nn T' := by
  intro k n' ci T' h
  unfold ca_X1_load at h
  split at h
  · cases h; exact ⟨0, by decide, _, _, _, _, k_X6_copyRow l, Or.inr ⟨rfl, FX6_copyRow, Or.inr ⟨_, KRX1_55⟩⟩⟩
  · cases h
def T_X1_load : Tr := fun a σ K => match a with
  | [.inr (.inl (1, n)), .inr (.inl (5, i))] => stB σ i ∧ ∀ σ', Lod n i σ σ' → K none σ'
  | _ => False
set_option maxHeartbeats 8000000 in
set_option maxRecDepth 20000 in
theorem k_X1_load (l : Launch) : Ct l yX1_load cX1_load 5 none 1 T_X1_load := by
  refine mk_met (by decide +kernel) hCX1_load lCX1_load frX1_ok cstX1_ok (cao_X1_load l) ?_ ?_
  · intro a σ K h
    unfold T_X1_load at h
    split at h
    · simp [eL]
    · exact h.elim
  · intro a σ K ha hR h
    unfold T_X1_load at h
    split at h
    · rename_i n i
      refine ⟨fun pc => if pc = 7 then some (fun L S σ' k => match L, S with | [some (.inr (.inl c1)), some (.inr (.inl c2)), some (.inl x), _, _], [] => (c1 = (1, n) ∧ c2 = (5, i) ∧ 0 ≤ x ∧ x ≤ 16 ∧ LD0 σ σ' n x) ∧ k = (16 - x).toNat + 200 | _, _ => False) else if pc = 47 then some (fun L S σ' k => match L, S with | [some (.inr (.inl c1)), some (.inr (.inl c2)), some (.inl j), _, _], [] => (c1 = (1, n) ∧ c2 = (5, i) ∧ 0 ≤ j ∧ j ≤ 4 ∧ LD σ σ' n i j 0) ∧ k = (4 - j).toNat * 20 + 10 | _, _ => False) else if pc = 54 then some (fun L S σ' k => match L, S with | [some (.inr (.inl c1)), some (.inr (.inl c2)), some (.inl j), some (.inl s), _], [] => (c1 = (1, n) ∧ c2 = (5, i) ∧ 0 ≤ j ∧ j < 4 ∧ 0 ≤ s ∧ s ≤ σ 10 i j ∧ LD σ σ' n i j s) ∧ k = (3 - j).toNat * 20 + 10 + (10 - s).toNat | _, _ => False) else none, 200, ?_, ?_⟩
      · intro pc I L S σ' k hcut hi
        dsimp only at hcut
        split at hcut
        · rename_i hpc
          subst hpc
          cases hcut
          try dsimp only at hi
          split at hi
          · rename_i c1 c2 x x1 x2
            obtain ⟨hi, rfl⟩ := hi
            obtain ⟨rfl, rfl, h0, h1, hI⟩ := hi
            obtain ⟨hB, h⟩ := h
            simp only [wp, stp, drp, entL, eL, lget, lset, okst, cnd, swt, rcv, Kr_int, Kr_bool, Kr_void, List.length_cons, List.length_nil, List.replicate, List.append_nil, List.cons_append, List.nil_append, List.take_succ_cons, List.take_zero, List.drop_succ_cons, List.drop_zero, List.reverse_cons, List.reverse_nil, Option.map_some, Option.map_none, Option.toList_some, Option.toList_none, Nat.reduceAdd, Nat.reduceSub, Nat.reduceLT, Nat.reduceLeDiff, Nat.reduceEqDiff, ↓reduceIte, Nat.add_zero, Nat.zero_add, true_and, and_true, Nat.le_refl, reduceCtorEq, false_implies, true_implies, not_true_eq_false, not_false_eq_true, Int.reduceAdd, Int.reduceSub, Int.reduceMul, Int.reduceLE, Int.reduceLT, Int.reduceEq, Int.reduceNe, Int.reduceNeg, Int.reduceDiv, Int.reduceMod, Bool.false_eq_true, Int.le_refl, and_self, true_or, or_true, inR_l, fv0, fv1, fv2, fv3, nc2, nc4, nc6, nc16, nc25, nc60, nc65, nc80, nc130, nc384, nc390, fp_0_0, fp_0_1, fp_0_2, fp_1_0, fp_1_1, fp_1_2, fp_1_3, fp_1_4, fp_1_5, fp_1_6, fp_1_7, fp_1_8, fp_1_9, fp_1_10, fp_1_11, fp_1_12, fp_1_13, fp_1_14, fp_2_0, fp_2_1, fp_2_2, fp_2_3, fp_3_0, fp_3_1, fp_4_0, fp_4_1, fp_4_2, fp_4_3, fp_4_4, fp_4_5, fp_4_6, fp_4_7, fp_5_0, fp_5_1, fp_5_2, fp_5_3, fp_5_4, fp_5_5, fp_5_6, fp_5_7, fp_6_0, fp_6_1, fp_6_2, fp_6_3, fp_6_4, fp_6_5, fp_6_6, fp_6_7, fp_6_8, fp_6_9, fp_6_10, fp_6_11, fp_6_12, fp_6_13, fp_6_14, fp_6_15, fp_7_0, fp_7_1, fp_7_2, fp_7_3, fp_7_4, fp_7_5, fp_7_6, fp_7_7, fp_7_8, fp_7_9, fp_7_10, fp_7_11, fp_7_12, fp_7_13, fp_7_14, fp_7_15, fp_7_16, fp_7_17, fp_7_18, fp_7_19, fp_7_20, fp_7_21, fp_7_22, fp_7_23, fp_7_24, iz_0_1, iz_0_2, iz_1_8, iz_1_9, iz_1_11, iz_2_1, iz_2_2, iz_2_3, iz_3_1, iz_4_1, iz_4_2, iz_5_0, iz_6_8, iz_6_9, iz_6_13, iz_6_14, iz_6_15, iz_7_2, iz_7_6, iz_7_12, iz_7_20, iz_7_21, iz_7_23, iz_7_24, ak_8, ak_9, ak_10, ak_11, ak_12, ak_13, ak_14, ak_15, ak_16, ak_17, ak_18, ak_19, ak_20, ak_21, ak_22, ak_23, ak_24, ak_25, ak_26, ak_27, ak_28, ak_29, ak_30, ak_31, ak_32, ak_33, ak_34, ak_35, ak_36, ak_37, ak_38, ak_39, ak_40, ak_41, ak_42, ak_43, ak_44, ak_45, ak_46, ak_47, ak_48, ak_49, ak_50, ak_51, ak_52, ak_53, ak_54, ak_55, ak_56, el31, el33, el34, CX1_load, ca_X1_load, frX1, kcX1, klX1, T_X6_copyRow, up_ap, false_and, and_false, if_false, if_true, ite_true, ite_false, exists_eq_right_right, exists_eq_right, exists_eq_left, Nat.lt_irrefl, and_self, implies_true, forall_const]
            (repeat' (first | (with_reducible intro _) | (with_reducible refine And.intro ?_ ?_)))
            all_goals (try first | omega | exact ⟨by omega, by omega⟩)
            all_goals first | (exact LD_0 hI (by omega) (by assumption) (by assumption)) | (exact LD0_s hI)
          · exact hi.elim
        · split at hcut
          · rename_i hpc
            subst hpc
            cases hcut
            try dsimp only at hi
            split at hi
            · rename_i c1 c2 j x1 x2
              obtain ⟨hi, rfl⟩ := hi
              obtain ⟨rfl, rfl, h0, h1, hI⟩ := hi
              obtain ⟨hB, h⟩ := h
              simp only [wp, stp, drp, entL, eL, lget, lset, okst, cnd, swt, rcv, Kr_int, Kr_bool, Kr_void, List.length_cons, List.length_nil, List.replicate, List.append_nil, List.cons_append, List.nil_append, List.take_succ_cons, List.take_zero, List.drop_succ_cons, List.drop_zero, List.reverse_cons, List.reverse_nil, Option.map_some, Option.map_none, Option.toList_some, Option.toList_none, Nat.reduceAdd, Nat.reduceSub, Nat.reduceLT, Nat.reduceLeDiff, Nat.reduceEqDiff, ↓reduceIte, Nat.add_zero, Nat.zero_add, true_and, and_true, Nat.le_refl, reduceCtorEq, false_implies, true_implies, not_true_eq_false, not_false_eq_true, Int.reduceAdd, Int.reduceSub, Int.reduceMul, Int.reduceLE, Int.reduceLT, Int.reduceEq, Int.reduceNe, Int.reduceNeg, Int.reduceDiv, Int.reduceMod, Bool.false_eq_true, Int.le_refl, and_self, true_or, or_true, inR_l, fv0, fv1, fv2, fv3, nc2, nc4, nc6, nc16, nc25, nc60, nc65, nc80, nc130, nc384, nc390, fp_0_0, fp_0_1, fp_0_2, fp_1_0, fp_1_1, fp_1_2, fp_1_3, fp_1_4, fp_1_5, fp_1_6, fp_1_7, fp_1_8, fp_1_9, fp_1_10, fp_1_11, fp_1_12, fp_1_13, fp_1_14, fp_2_0, fp_2_1, fp_2_2, fp_2_3, fp_3_0, fp_3_1, fp_4_0, fp_4_1, fp_4_2, fp_4_3, fp_4_4, fp_4_5, fp_4_6, fp_4_7, fp_5_0, fp_5_1, fp_5_2, fp_5_3, fp_5_4, fp_5_5, fp_5_6, fp_5_7, fp_6_0, fp_6_1, fp_6_2, fp_6_3, fp_6_4, fp_6_5, fp_6_6, fp_6_7, fp_6_8, fp_6_9, fp_6_10, fp_6_11, fp_6_12, fp_6_13, fp_6_14, fp_6_15, fp_7_0, fp_7_1, fp_7_2, fp_7_3, fp_7_4, fp_7_5, fp_7_6, fp_7_7, fp_7_8, fp_7_9, fp_7_10, fp_7_11, fp_7_12, fp_7_13, fp_7_14, fp_7_15, fp_7_16, fp_7_17, fp_7_18, fp_7_19, fp_7_20, fp_7_21, fp_7_22, fp_7_23, fp_7_24, iz_0_1, iz_0_2, iz_1_8, iz_1_9, iz_1_11, iz_2_1, iz_2_2, iz_2_3, iz_3_1, iz_4_1, iz_4_2, iz_5_0, iz_6_8, iz_6_9, iz_6_13, iz_6_14, iz_6_15, iz_7_2, iz_7_6, iz_7_12, iz_7_20, iz_7_21, iz_7_23, iz_7_24, ak_8, ak_9, ak_10, ak_11, ak_12, ak_13, ak_14, ak_15, ak_16, ak_17, ak_18, ak_19, ak_20, ak_21, ak_22, ak_23, ak_24, ak_25, ak_26, ak_27, ak_28, ak_29, ak_30, ak_31, ak_32, ak_33, ak_34, ak_35, ak_36, ak_37, ak_38, ak_39, ak_40, ak_41, ak_42, ak_43, ak_44, ak_45, ak_46, ak_47, ak_48, ak_49, ak_50, ak_51, ak_52, ak_53, ak_54, ak_55, ak_56, el31, el33, el34, CX1_load, ca_X1_load, frX1, kcX1, klX1, T_X6_copyRow, up_ap, false_and, and_false, if_false, if_true, ite_true, ite_false, exists_eq_right_right, exists_eq_right, exists_eq_left, Nat.lt_irrefl, and_self, implies_true, forall_const]
              have hs0 : 0 ≤ j → j < 4 → 0 ≤ σ 10 i j := fun a b => (hB.1 j a b).1
              (repeat' (first | (with_reducible intro _) | (with_reducible refine And.intro ?_ ?_)))
              all_goals (try first | omega | exact ⟨by omega, by omega⟩)
              all_goals first | (exact h _ (LD_end hB hI (by assumption) h1))
            · exact hi.elim
          · split at hcut
            · rename_i hpc
              subst hpc
              cases hcut
              try dsimp only at hi
              split at hi
              · rename_i c1 c2 j s x2
                obtain ⟨hi, rfl⟩ := hi
                obtain ⟨rfl, rfl, h0, h1, h2, h3, hI⟩ := hi
                obtain ⟨hB, h⟩ := h
                simp only [wp, stp, drp, entL, eL, lget, lset, okst, cnd, swt, rcv, Kr_int, Kr_bool, Kr_void, List.length_cons, List.length_nil, List.replicate, List.append_nil, List.cons_append, List.nil_append, List.take_succ_cons, List.take_zero, List.drop_succ_cons, List.drop_zero, List.reverse_cons, List.reverse_nil, Option.map_some, Option.map_none, Option.toList_some, Option.toList_none, Nat.reduceAdd, Nat.reduceSub, Nat.reduceLT, Nat.reduceLeDiff, Nat.reduceEqDiff, ↓reduceIte, Nat.add_zero, Nat.zero_add, true_and, and_true, Nat.le_refl, reduceCtorEq, false_implies, true_implies, not_true_eq_false, not_false_eq_true, Int.reduceAdd, Int.reduceSub, Int.reduceMul, Int.reduceLE, Int.reduceLT, Int.reduceEq, Int.reduceNe, Int.reduceNeg, Int.reduceDiv, Int.reduceMod, Bool.false_eq_true, Int.le_refl, and_self, true_or, or_true, inR_l, fv0, fv1, fv2, fv3, nc2, nc4, nc6, nc16, nc25, nc60, nc65, nc80, nc130, nc384, nc390, fp_0_0, fp_0_1, fp_0_2, fp_1_0, fp_1_1, fp_1_2, fp_1_3, fp_1_4, fp_1_5, fp_1_6, fp_1_7, fp_1_8, fp_1_9, fp_1_10, fp_1_11, fp_1_12, fp_1_13, fp_1_14, fp_2_0, fp_2_1, fp_2_2, fp_2_3, fp_3_0, fp_3_1, fp_4_0, fp_4_1, fp_4_2, fp_4_3, fp_4_4, fp_4_5, fp_4_6, fp_4_7, fp_5_0, fp_5_1, fp_5_2, fp_5_3, fp_5_4, fp_5_5, fp_5_6, fp_5_7, fp_6_0, fp_6_1, fp_6_2, fp_6_3, fp_6_4, fp_6_5, fp_6_6, fp_6_7, fp_6_8, fp_6_9, fp_6_10, fp_6_11, fp_6_12, fp_6_13, fp_6_14, fp_6_15, fp_7_0, fp_7_1, fp_7_2, fp_7_3, fp_7_4, fp_7_5, fp_7_6, fp_7_7, fp_7_8, fp_7_9, fp_7_10, fp_7_11, fp_7_12, fp_7_13, fp_7_14, fp_7_15, fp_7_16, fp_7_17, fp_7_18, fp_7_19, fp_7_20, fp_7_21, fp_7_22, fp_7_23, fp_7_24, iz_0_1, iz_0_2, iz_1_8, iz_1_9, iz_1_11, iz_2_1, iz_2_2, iz_2_3, iz_3_1, iz_4_1, iz_4_2, iz_5_0, iz_6_8, iz_6_9, iz_6_13, iz_6_14, iz_6_15, iz_7_2, iz_7_6, iz_7_12, iz_7_20, iz_7_21, iz_7_23, iz_7_24, ak_8, ak_9, ak_10, ak_11, ak_12, ak_13, ak_14, ak_15, ak_16, ak_17, ak_18, ak_19, ak_20, ak_21, ak_22, ak_23, ak_24, ak_25, ak_26, ak_27, ak_28, ak_29, ak_30, ak_31, ak_32, ak_33, ak_34, ak_35, ak_36, ak_37, ak_38, ak_39, ak_40, ak_41, ak_42, ak_43, ak_44, ak_45, ak_46, ak_47, ak_48, ak_49, ak_50, ak_51, ak_52, ak_53, ak_54, ak_55, ak_56, el31, el33, el34, CX1_load, ca_X1_load, frX1, kcX1, klX1, T_X6_copyRow, up_ap, false_and, and_false, if_false, if_true, ite_true, ite_false, exists_eq_right_right, exists_eq_right, exists_eq_left, Nat.lt_irrefl, and_self, implies_true, forall_const]
                have e15 := hI.2.1 j h0 h1
                have hst := hB.1 j h0 h1
                have hmc : s < σ 10 i j → 0 ≤ σ' 11 i (4 * j + s) ∧ σ' 11 i (4 * j + s) < 4 := fun a => by
                  rw [hI.1 11 i _ (by rintro ⟨-, q⟩; omega)]
                  have := hB.2.1 (4 * j + s) ⟨by omega, by omega, by rw [show (4 * j + s) / 4 = j by omega]; omega⟩
                  exact ⟨this.1, this.2.1⟩
                have he9 := hI.2.2.2.2.2
                have hw : 0 ≤ wF (σ 10 i) 0 j ∧ wF (σ 10 i) 0 j ≤ 16 := by
                  have b0 := hB.1 0 (by omega) (by omega)
                  have b1 := hB.1 1 (by omega) (by omega)
                  have b2 := hB.1 2 (by omega) (by omega)
                  have b3 := hB.1 3 (by omega) (by omega)
                  unfold wF
                  simp only [Int.zero_add]
                  repeat' split
                  all_goals omega
                (repeat' (first | (with_reducible intro _) | (with_reducible refine And.intro ?_ ?_)))
                all_goals (try first | omega | exact ⟨by omega, by omega⟩)
                all_goals first | (exact LD_next hI h0 h1 h3 (by omega)) | (exact LD_step hB hI h0 h1 h2 (by omega))
              · exact hi.elim
            · cases hcut
      · simp only [wp, stp, drp, entL, eL, lget, lset, okst, cnd, swt, rcv, Kr_int, Kr_bool, Kr_void, List.length_cons, List.length_nil, List.replicate, List.append_nil, List.cons_append, List.nil_append, List.take_succ_cons, List.take_zero, List.drop_succ_cons, List.drop_zero, List.reverse_cons, List.reverse_nil, Option.map_some, Option.map_none, Option.toList_some, Option.toList_none, Nat.reduceAdd, Nat.reduceSub, Nat.reduceLT, Nat.reduceLeDiff, Nat.reduceEqDiff, ↓reduceIte, Nat.add_zero, Nat.zero_add, true_and, and_true, Nat.le_refl, reduceCtorEq, false_implies, true_implies, not_true_eq_false, not_false_eq_true, Int.reduceAdd, Int.reduceSub, Int.reduceMul, Int.reduceLE, Int.reduceLT, Int.reduceEq, Int.reduceNe, Int.reduceNeg, Int.reduceDiv, Int.reduceMod, Bool.false_eq_true, Int.le_refl, and_self, true_or, or_true, inR_l, fv0, fv1, fv2, fv3, nc2, nc4, nc6, nc16, nc25, nc60, nc65, nc80, nc130, nc384, nc390, fp_0_0, fp_0_1, fp_0_2, fp_1_0, fp_1_1, fp_1_2, fp_1_3, fp_1_4, fp_1_5, fp_1_6, fp_1_7, fp_1_8, fp_1_9, fp_1_10, fp_1_11, fp_1_12, fp_1_13, fp_1_14, fp_2_0, fp_2_1, fp_2_2, fp_2_3, fp_3_0, fp_3_1, fp_4_0, fp_4_1, fp_4_2, fp_4_3, fp_4_4, fp_4_5, fp_4_6, fp_4_7, fp_5_0, fp_5_1, fp_5_2, fp_5_3, fp_5_4, fp_5_5, fp_5_6, fp_5_7, fp_6_0, fp_6_1, fp_6_2, fp_6_3, fp_6_4, fp_6_5, fp_6_6, fp_6_7, fp_6_8, fp_6_9, fp_6_10, fp_6_11, fp_6_12, fp_6_13, fp_6_14, fp_6_15, fp_7_0, fp_7_1, fp_7_2, fp_7_3, fp_7_4, fp_7_5, fp_7_6, fp_7_7, fp_7_8, fp_7_9, fp_7_10, fp_7_11, fp_7_12, fp_7_13, fp_7_14, fp_7_15, fp_7_16, fp_7_17, fp_7_18, fp_7_19, fp_7_20, fp_7_21, fp_7_22, fp_7_23, fp_7_24, iz_0_1, iz_0_2, iz_1_8, iz_1_9, iz_1_11, iz_2_1, iz_2_2, iz_2_3, iz_3_1, iz_4_1, iz_4_2, iz_5_0, iz_6_8, iz_6_9, iz_6_13, iz_6_14, iz_6_15, iz_7_2, iz_7_6, iz_7_12, iz_7_20, iz_7_21, iz_7_23, iz_7_24, ak_8, ak_9, ak_10, ak_11, ak_12, ak_13, ak_14, ak_15, ak_16, ak_17, ak_18, ak_19, ak_20, ak_21, ak_22, ak_23, ak_24, ak_25, ak_26, ak_27, ak_28, ak_29, ak_30, ak_31, ak_32, ak_33, ak_34, ak_35, ak_36, ak_37, ak_38, ak_39, ak_40, ak_41, ak_42, ak_43, ak_44, ak_45, ak_46, ak_47, ak_48, ak_49, ak_50, ak_51, ak_52, ak_53, ak_54, ak_55, ak_56, el31, el33, el34, CX1_load, ca_X1_load, frX1, kcX1, klX1, T_X6_copyRow, up_ap, false_and, and_false, if_false, if_true, ite_true, ite_false, exists_eq_right_right, exists_eq_right, exists_eq_left, Nat.lt_irrefl, and_self, implies_true, forall_const]
        exact LD0_0
    · exact h.elim
end
section
/-! orders that are followed -/
def pAh (n : Nat) (t a : Nat) (_x : Int) : Prop := t = 20 ∧ a = n
/-- the job b stands ahead of k, among the first P places of the order of m -/
def bq (σ : Mem) (i : Nat) (m P b k : Int) : Prop := ∃ p, 0 ≤ p ∧ p < P ∧ σ 14 i (4 * m + p) = b ∧ ∀ p', 0 ≤ p' → p' ≤ p → σ 14 i (4 * m + p') ≠ k
theorem bq_s {σ : Mem} {i : Nat} {m P b k : Int} (h0 : 0 ≤ P) : bq σ i m (P + 1) b k ↔ bq σ i m P b k ∨ (b = σ 14 i (4 * m + P) ∧ ∀ p', 0 ≤ p' → p' ≤ P → σ 14 i (4 * m + p') ≠ k) := by
  constructor
  · rintro ⟨p, p0, p1, p2, p3⟩
    rcases (show p < P ∨ p = P by omega) with q | rfl
    · exact Or.inl ⟨p, p0, q, p2, p3⟩
    · exact Or.inr ⟨p2.symm, p3⟩
  · rintro (⟨p, p0, p1, p2, p3⟩ | ⟨p2, p3⟩)
    · exact ⟨p, p0, by omega, p2, p3⟩
    · exact ⟨P, h0, by omega, p2.symm, p3⟩
theorem bq_0 {σ : Mem} {i : Nat} {m b k : Int} : ¬ bq σ i m 0 b k := by
  rintro ⟨p, p0, p1, -⟩
  omega
/-- the order of a machine as it must be: jobs that are there -/
def qB (σ : Mem) (n i : Nat) (m : Int) : Prop := 0 ≤ σ 13 i m ∧ σ 13 i m ≤ 4 ∧ ∀ p, 0 ≤ p → p < σ 13 i m → 0 ≤ σ 14 i (4 * m + p) ∧ σ 14 i (4 * m + p) < 4 ∧ 0 ≤ σ 19 n (4 * m + σ 14 i (4 * m + p))
def FO (σ σ' : Mem) (n i : Nat) (m P : Int) : Prop := FrG (pAh n) σ σ' ∧ nA σ' n ∧ (∀ k b, 0 ≤ k → k < 4 → 0 ≤ b → b < 4 → 0 ≤ σ 19 n (4 * m + k) → (hasB (σ' 20 n (σ 19 n (4 * m + k))) b ↔ hasB (σ 20 n (σ 19 n (4 * m + k))) b ∨ bq σ i m P b k)) ∧ (∀ x, (∀ k, 0 ≤ k → k < 4 → σ 19 n (4 * m + k) ≠ x) → σ' 20 n x = σ 20 n x)
def FOo (σ : Mem) (n i : Nat) (m P ot : Int) : Prop := 0 ≤ ot ∧ ot < 16 ∧ ∀ k, 0 ≤ k → k < 4 → (hasB ot k ↔ (0 ≤ σ 19 n (4 * m + k) ∧ ∀ p, 0 ≤ p → p < P → σ 14 i (4 * m + p) ≠ k))
theorem FO_0 {σ : Mem} {n i : Nat} {m : Int} (hA : nA σ n) : FO σ σ n i m 0 := ⟨FrG.r, hA, fun k b _ _ _ _ _ => ⟨Or.inl, fun q => q.resolve_right bq_0⟩, fun _ _ => rfl⟩
theorem FOo_0 {σ : Mem} {n i : Nat} {m r : Int} (h0 : 0 ≤ r) (h1 : r < 16) (h : ∀ k, 0 ≤ k → k < 4 → (hasB r k ↔ 0 ≤ σ 19 n (4 * m + k))) : FOo σ n i m 0 r := ⟨h0, h1, fun k a b => by
  rw [h k a b]
  exact ⟨fun q => ⟨q, fun p p0 p1 => by omega⟩, fun q => q.1⟩⟩
theorem FOo_s {σ : Mem} {n i : Nat} {m P ot : Int} (h : FOo σ n i m P ot) (hP : 0 ≤ P) (j0 : 0 ≤ σ 14 i (4 * m + P)) (j1 : σ 14 i (4 * m + P) < 4) : FOo σ n i m (P + 1) (band ot (bxor (bshl 1 (σ 14 i (4 * m + P))) (-1))) := by
  obtain ⟨a, b, c⟩ := h
  have r := bit_cl_r a b j0 j1
  refine ⟨r.1, r.2, fun k k0 k1 => ?_⟩
  rw [bit_cl a b j0 j1 k0 k1, c k k0 k1]
  constructor
  · rintro ⟨⟨q1, q2⟩, q3⟩
    refine ⟨q1, fun p p0 p1 => ?_⟩
    rcases (show p < P ∨ p = P by omega) with d | rfl
    · exact q2 p p0 d
    · exact fun e => q3 e.symm
  · rintro ⟨q1, q2⟩
    exact ⟨⟨q1, fun p p0 p1 => q2 p p0 (by omega)⟩, fun e => q2 P hP (by omega) e.symm⟩
theorem FO_s {σ σ' σ2 : Mem} {n i : Nat} {m P ot : Int} (hB : nB σ n) (m0 : 0 ≤ m) (m1 : m < 4) (hq : qB σ n i m) (h : FO σ σ' n i m P) (ho : FOo σ n i m (P + 1) ot) (hP : 0 ≤ P) (hP2 : P < σ 13 i m) (hL : LI σ' σ2 n m ot (σ 14 i (4 * m + P)) 4) : FO σ σ2 n i m (P + 1) := by
  obtain ⟨a1, a2, a3, a4⟩ := h
  obtain ⟨j0, j1, jon⟩ := hq.2.2 P hP hP2
  obtain ⟨l1, l2, l3⟩ := hL
  obtain ⟨o0, o1, o2⟩ := ho
  have e : ∀ t, t ≠ 20 → ∀ x, σ' t n x = σ t n x := fun t ht x => a1 t n x (fun q => ht q.1)
  have e19 := e 19 (by omega)
  have hF : FrG (pAh n) σ σ2 := a1.t (fun t a x q => l1 t a x (by
    by_cases c : t = 20
    · exact Or.inr (fun d => q ⟨c, d⟩)
    · exact Or.inl c))
  have key : ∀ k b, 0 ≤ k → k < 4 → 0 ≤ b → b < 4 → 0 ≤ σ 19 n (4 * m + k) → (hasB (σ2 20 n (σ 19 n (4 * m + k))) b ↔ hasB (σ' 20 n (σ 19 n (4 * m + k))) b ∨ (hasB ot k ∧ b = σ 14 i (4 * m + P))) ∧ 0 ≤ σ2 20 n (σ 19 n (4 * m + k)) ∧ σ2 20 n (σ 19 n (4 * m + k)) < 16 := by
    intro k b k0 k1 b0 b1 q
    obtain ⟨v1, v2, v3⟩ := hB.2.2 m k m0 m1 k0 k1 q
    have hv : vOp (σ' 15 n) (σ 19 n (4 * m + k)) := (vOp_cg (fun j _ _ => e 15 (by omega) j) _).mpr v1
    obtain ⟨r0, r1, -⟩ := a2 _ hv
    by_cases c : hasB ot k
    · have := l3 k k0 k1 c (by rw [e19]; exact q)
      rw [e19] at this
      rw [this, bit_or r0 r1 j0 j1 b0 b1]
      have := bit_or_r r0 r1 j0 j1
      exact ⟨by simp [c], this⟩
    · have : σ2 20 n (σ 19 n (4 * m + k)) = σ' 20 n (σ 19 n (4 * m + k)) := by
        refine l2 _ (fun k' k'0 k'1 c' f => ?_)
        rw [e19] at f
        have := NB_inj hB m0 m1 k k' k0 k1 k'0 k'1 q f.symm
        exact c (this ▸ c')
      rw [this]
      exact ⟨by simp [c], r0, r1⟩
  have bits : ∀ k b, 0 ≤ k → k < 4 → 0 ≤ b → b < 4 → 0 ≤ σ 19 n (4 * m + k) → (hasB (σ2 20 n (σ 19 n (4 * m + k))) b ↔ hasB (σ 20 n (σ 19 n (4 * m + k))) b ∨ bq σ i m (P + 1) b k) := by
    intro k b k0 k1 b0 b1 q
    rw [(key k b k0 k1 b0 b1 q).1, a3 k b k0 k1 b0 b1 q, bq_s hP, o2 k k0 k1, or_assoc]
    constructor
    · rintro (c | c | ⟨⟨c1, c2⟩, c3⟩)
      · exact Or.inl c
      · exact Or.inr (Or.inl c)
      · exact Or.inr (Or.inr ⟨c3, fun p' p0 p1 => c2 p' p0 (by omega)⟩)
    · rintro (c | c | ⟨c1, c2⟩)
      · exact Or.inl c
      · exact Or.inr (Or.inl c)
      · exact Or.inr (Or.inr ⟨⟨q, fun p' p0 p1 => c2 p' p0 (by omega)⟩, c1⟩)
  have rest : ∀ x, (∀ k, 0 ≤ k → k < 4 → σ 19 n (4 * m + k) ≠ x) → σ2 20 n x = σ' 20 n x := fun x q => l2 x (fun k k0 k1 _ => by rw [e19]; exact q k k0 k1)
  refine ⟨hF, fun o v => ?_, bits, fun x q => by rw [rest x q, a4 x q]⟩
  have f : ∀ t, t ≠ 20 → ∀ x, σ2 t n x = σ t n x := fun t ht x => hF t n x (fun q => ht q.1)
  have v' : vOp (σ 15 n) o := (vOp_cg (fun j _ _ => f 15 (by omega) j) _).mp v
  have v2 : vOp (σ' 15 n) o := (vOp_cg (fun j _ _ => e 15 (by omega) j) _).mpr v'
  obtain ⟨r0, r1, r2⟩ := a2 o v2
  rw [f 16 (by omega)]
  simp only [f 19 (by omega)]
  rw [e 16 (by omega)] at r2
  simp only [e19] at r2
  obtain ⟨d0, d1, -, -, -, -, hon⟩ := hB.2.1 o v'
  have hj := vOp_j v'
  by_cases c : σ 16 n o = m
  · have ho : σ 19 n (4 * m + o / 4) = o := by rw [← c]; exact hon
    have kk := fun b b0 b1 => key (o / 4) b hj.1 hj.2.1 b0 b1 (by rw [ho]; exact v'.1)
    rw [ho] at kk
    refine ⟨(kk 0 (by omega) (by omega)).2.1, (kk 0 (by omega) (by omega)).2.2, fun k k0 k1 q => ?_⟩
    rcases (kk k k0 k1).1.mp q with q | ⟨q1, q2⟩
    · exact r2 k k0 k1 q
    · subst q2
      refine ⟨fun d => ?_, by rw [c]; exact jon⟩
      exact ((o2 (o / 4) hj.1 hj.2.1).mp q1).2 P hP (by omega) d
  · have : σ2 20 n o = σ' 20 n o := rest o (fun k k0 k1 d => c (by
      have := (hB.2.2 m k m0 m1 k0 k1 (by rw [d]; exact v'.1)).2.1
      rw [d] at this
      exact this))
    rw [this]
    exact ⟨r0, r1, r2⟩
/-- all orders, of the machines below M -/
def FS (σ σ' : Mem) (n i : Nat) (M : Int) : Prop := FrG (pAh n) σ σ' ∧ nA σ' n ∧ ∀ m k b, 0 ≤ m → m < 4 → 0 ≤ k → k < 4 → 0 ≤ b → b < 4 → 0 ≤ σ 19 n (4 * m + k) → (hasB (σ' 20 n (σ 19 n (4 * m + k))) b ↔ hasB (σ 20 n (σ 19 n (4 * m + k))) b ∨ (m < M ∧ bq σ i m (σ 13 i m) b k))
theorem FS_0 {σ : Mem} {n i : Nat} (hA : nA σ n) : FS σ σ n i 0 := ⟨FrG.r, hA, fun m k b _ _ _ _ _ _ _ => ⟨Or.inl, fun q => q.resolve_right (fun c => by omega)⟩⟩
theorem bq_cg {σ σ' : Mem} {i : Nat} {m P b k : Int} (h : ∀ x, σ' 14 i x = σ 14 i x) : bq σ' i m P b k ↔ bq σ i m P b k := by
  unfold bq
  simp only [h]
theorem FS_s {σ σ' σ2 : Mem} {n i : Nat} {M : Int} (hB : nB σ n) (h : FS σ σ' n i M) (h0 : 0 ≤ M) (h1 : M < 4) (hF : FO σ' σ2 n i M (σ 13 i M)) : FS σ σ2 n i (M + 1) := by
  obtain ⟨a1, a2, a3⟩ := h
  obtain ⟨b1, b2, b3, b4⟩ := hF
  have e19 : ∀ x, σ' 19 n x = σ 19 n x := fun x => a1 19 n x (by rintro ⟨q, -⟩; omega)
  have e14 : ∀ x, σ' 14 i x = σ 14 i x := fun x => a1 14 i x (by rintro ⟨q, -⟩; omega)
  refine ⟨a1.t b1, b2, fun m k b m0 m1 k0 k1 c0 c1 q => ?_⟩
  by_cases c : m = M
  · subst c
    have u := b3 k b k0 k1 c0 c1 (by rw [e19]; exact q)
    rw [e19, bq_cg e14] at u
    rw [u, a3 m k b m0 m1 k0 k1 c0 c1 q]
    constructor
    · rintro ((d | d) | d)
      · exact Or.inl d
      · omega
      · exact Or.inr ⟨by omega, d⟩
    · rintro (d | ⟨-, d⟩)
      · exact Or.inl (Or.inl d)
      · exact Or.inr d
  · rw [b4 _ (fun k' k'0 k'1 d => c (by
      rw [e19] at d
      have u1 := (hB.2.2 m k m0 m1 k0 k1 q).2.1
      have u2 := (hB.2.2 M k' h0 h1 k'0 k'1 (by omega)).2.1
      rw [d] at u2
      omega)), a3 m k b m0 m1 k0 k1 c0 c1 q]
    constructor
    · rintro (d | ⟨d, d2⟩)
      · exact Or.inl d
      · exact Or.inr ⟨by omega, d2⟩
    · rintro (d | ⟨d, d2⟩)
      · exact Or.inl d
      · exact Or.inr ⟨by omega, d2⟩
/-! forced orders -/
def pA (mc : Int → Int) (A : Int → Int → Prop) (o' o : Int) : Prop := (o % 4 ≠ 0 ∧ o' = o - 1) ∨ (mc o' = mc o ∧ A o' o)
/-- what is decided, as a relation -/
def rA (ah : Int → Int) (o' o : Int) : Prop := hasB (ah o) (o' / 4)
/-- a relation that keeps the limit u and has all that u forces by it -/
def Clo (st mc du rd : Int → Int) (u : Int) (A : Int → Int → Prop) : Prop := ∃ h t : Int → Int, IsHead (vOp st) (pA mc A) du rd h ∧ IsTail (vOp st) (pA mc A) du t ∧ (∀ o, vOp st o → h o + du o + t o ≤ u) ∧ ∀ x y, vOp st x → vOp st y → x ≠ y → mc x = mc y → u < h x + du x + du y + t y → A y x
def sbA (st mc ah : Int → Int) (A : Int → Int → Prop) : Prop := ∀ o' o, vOp st o' → vOp st o → mc o' = mc o → hasB (ah o) (o' / 4) → A o' o
theorem sbA_p {st mc ah : Int → Int} {A : Int → Int → Prop} (h : sbA st mc ah A) : ∀ o' o, vOp st o' → vOp st o → pN mc ah o' o → pA mc A o' o := by
  rintro o' o v' v (p | ⟨p1, p2⟩)
  · exact Or.inl p
  · exact Or.inr ⟨p1, h o' o v' v p1 p2⟩
theorem head_mono {V : Int → Prop} {P P' : Int → Int → Prop} {d r h h' : Int → Int} (hd : ∀ o, V o → 1 ≤ d o) (hr : ∀ o, V o → 0 ≤ r o) (hP : ∀ o' o, V o' → V o → P o' o → P' o' o) (H : IsHead V P d r h) (H' : IsHead V P' d r h') {o : Int} (ho : V o) : h o ≤ h' o := by
  have key : ∀ (n : Nat) (o : Int), V o → h o ≤ n → h o ≤ h' o := by
    intro n
    induction n with
    | zero =>
      intro o ho hn
      have h1 := head_ge hr H ho
      have h2 := head_ge hr H' ho
      omega
    | succ n ih =>
      intro o ho hn
      obtain ⟨a1, a2, a3⟩ := H o ho
      obtain ⟨b1, b2, b3⟩ := H' o ho
      rcases a3 with a3 | ⟨o', v', p', a3⟩
      · omega
      · have h1 := hd o' v'
        have h2 := ih o' v' (by omega)
        have h3 := b2 o' v' (hP o' o v' ho p')
        omega
  exact key (h o).toNat o ho (by omega)
theorem tail_mono {V : Int → Prop} {P P' : Int → Int → Prop} {d t t' : Int → Int} (hd : ∀ o, V o → 1 ≤ d o) (hP : ∀ o' o, V o' → V o → P o' o → P' o' o) (H : IsTail V P d t) (H' : IsTail V P' d t') {o : Int} (ho : V o) : t o ≤ t' o := by
  have key : ∀ (n : Nat) (o : Int), V o → t o ≤ n → t o ≤ t' o := by
    intro n
    induction n with
    | zero =>
      intro o ho hn
      have h1 := (H o ho).1
      have h2 := (H' o ho).1
      omega
    | succ n ih =>
      intro o ho hn
      obtain ⟨a1, a2, a3⟩ := H o ho
      obtain ⟨b1, b2, b3⟩ := H' o ho
      rcases a3 with a3 | ⟨o', v', p', a3⟩
      · omega
      · have h1 := hd o' v'
        have h2 := ih o' v' (by omega)
        have h3 := b2 o' v' (hP o o' ho v' p')
        omega
  exact key (t o).toNat o ho (by omega)
/-- the way through x and y, x first, is longer than u -/
def wy (σ : Mem) (n : Nat) (u x y : Int) : Prop := u < σ 21 n x + σ 17 n x + σ 17 n y + σ 22 n y
/-- heads and tails are no greater than these -/
def nH (σ : Mem) (n : Nat) : Prop := ∀ o, vOp (σ 15 n) o → 0 ≤ σ 21 n o ∧ σ 21 n o ≤ 700 ∧ 0 ≤ σ 22 n o ∧ σ 22 n o ≤ 320
def und (ah : Int → Int) (x y : Int) : Prop := 0 ≤ x ∧ 0 ≤ y ∧ ¬ hasB (ah y) (x / 4) ∧ ¬ hasB (ah x) (y / 4)
noncomputable def b2i (p : Prop) : Int := @ite _ p (Classical.propDecidable p) 1 0
theorem b2i_r (p : Prop) : 0 ≤ b2i p ∧ b2i p ≤ 1 := by
  unfold b2i
  split <;> omega
theorem b2i_1 {p : Prop} (h : p) : b2i p = 1 := by
  unfold b2i
  rw [if_pos h]
theorem b2i_0 {p : Prop} (h : ¬ p) : b2i p = 0 := by
  unfold b2i
  rw [if_neg h]
theorem b2i_le {p q : Prop} (h : p → q) : b2i p ≤ b2i q := by
  by_cases c : p
  · rw [b2i_1 c, b2i_1 (h c)]
    exact Int.le_refl _
  · rw [b2i_0 c]
    exact (b2i_r q).1
/-- how many pairs of a machine, of all machines are decided -/
noncomputable def dP (on ah : Int → Int) (m i j : Int) : Int := b2i (¬ und ah (on (4 * m + i)) (on (4 * m + j)))
noncomputable def dcm (on ah : Int → Int) (m : Int) : Int := dP on ah m 0 1 + dP on ah m 0 2 + dP on ah m 0 3 + dP on ah m 1 2 + dP on ah m 1 3 + dP on ah m 2 3
noncomputable def dc (on ah : Int → Int) : Int := dcm on ah 0 + dcm on ah 1 + dcm on ah 2 + dcm on ah 3
/-- nothing that is decided is lost -/
def mnA (st ah ah' : Int → Int) : Prop := ∀ o k, vOp st o → 0 ≤ k → k < 4 → hasB (ah o) k → hasB (ah' o) k
theorem mnA.r {st ah : Int → Int} : mnA st ah ah := fun _ _ _ _ _ h => h
theorem mnA.t {st ah ah' ah2 : Int → Int} (h : mnA st ah ah') (h2 : mnA st ah' ah2) : mnA st ah ah2 := fun o k v a b c => h2 o k v a b (h o k v a b c)
theorem mnA.und {st mc du rd on ah ah' : Int → Int} (hB : NB st mc du rd on) (h : mnA st ah ah') {m i j : Int} (m0 : 0 ≤ m) (m1 : m < 4) (i0 : 0 ≤ i) (i1 : i < 4) (j0 : 0 ≤ j) (j1 : j < 4) (hu : und ah' (on (4 * m + i)) (on (4 * m + j))) : und ah (on (4 * m + i)) (on (4 * m + j)) := by
  obtain ⟨a, b, c, d⟩ := hu
  obtain ⟨v1, -, e1⟩ := hB.2.2 m i m0 m1 i0 i1 a
  obtain ⟨v2, -, e2⟩ := hB.2.2 m j m0 m1 j0 j1 b
  exact ⟨a, b, fun q => c (h _ _ v2 (by omega) (by omega) q), fun q => d (h _ _ v1 (by omega) (by omega) q)⟩
theorem dP_mono {st mc du rd on ah ah' : Int → Int} (hB : NB st mc du rd on) (h : mnA st ah ah') {m i j : Int} (m0 : 0 ≤ m) (m1 : m < 4) (i0 : 0 ≤ i) (i1 : i < 4) (j0 : 0 ≤ j) (j1 : j < 4) : dP on ah m i j ≤ dP on ah' m i j := b2i_le (fun q c => q (h.und hB m0 m1 i0 i1 j0 j1 c))
theorem dcm_mono {st mc du rd on ah ah' : Int → Int} (hB : NB st mc du rd on) (h : mnA st ah ah') {m : Int} (m0 : 0 ≤ m) (m1 : m < 4) : dcm on ah m ≤ dcm on ah' m := by
  have h1 := dP_mono hB h m0 m1 (i := 0) (j := 1) (by omega) (by omega) (by omega) (by omega)
  have h2 := dP_mono hB h m0 m1 (i := 0) (j := 2) (by omega) (by omega) (by omega) (by omega)
  have h3 := dP_mono hB h m0 m1 (i := 0) (j := 3) (by omega) (by omega) (by omega) (by omega)
  have h4 := dP_mono hB h m0 m1 (i := 1) (j := 2) (by omega) (by omega) (by omega) (by omega)
  have h5 := dP_mono hB h m0 m1 (i := 1) (j := 3) (by omega) (by omega) (by omega) (by omega)
  have h6 := dP_mono hB h m0 m1 (i := 2) (j := 3) (by omega) (by omega) (by omega) (by omega)
  unfold dcm
  omega
theorem dc_mono {st mc du rd on ah ah' : Int → Int} (hB : NB st mc du rd on) (h : mnA st ah ah') : dc on ah ≤ dc on ah' := by
  have h1 := dcm_mono hB h (m := 0) (by omega) (by omega)
  have h2 := dcm_mono hB h (m := 1) (by omega) (by omega)
  have h3 := dcm_mono hB h (m := 2) (by omega) (by omega)
  have h4 := dcm_mono hB h (m := 3) (by omega) (by omega)
  unfold dc
  omega
theorem dc_r (on ah : Int → Int) : 0 ≤ dc on ah ∧ dc on ah ≤ 24 := by
  have key : ∀ m, 0 ≤ dcm on ah m ∧ dcm on ah m ≤ 6 := by
    intro m
    have h1 := b2i_r (¬ und ah (on (4 * m + 0)) (on (4 * m + 1)))
    have h2 := b2i_r (¬ und ah (on (4 * m + 0)) (on (4 * m + 2)))
    have h3 := b2i_r (¬ und ah (on (4 * m + 0)) (on (4 * m + 3)))
    have h4 := b2i_r (¬ und ah (on (4 * m + 1)) (on (4 * m + 2)))
    have h5 := b2i_r (¬ und ah (on (4 * m + 1)) (on (4 * m + 3)))
    have h6 := b2i_r (¬ und ah (on (4 * m + 2)) (on (4 * m + 3)))
    unfold dcm dP
    omega
  have h1 := key 0
  have h2 := key 1
  have h3 := key 2
  have h4 := key 3
  unfold dc
  omega
theorem dc_step {st mc du rd on ah ah' : Int → Int} (hB : NB st mc du rd on) (h : mnA st ah ah') {m i j : Int} (m0 : 0 ≤ m) (m1 : m < 4) (i0 : 0 ≤ i) (i1 : i < j) (j1 : j < 4) (hu : und ah (on (4 * m + i)) (on (4 * m + j))) (hn : ¬ und ah' (on (4 * m + i)) (on (4 * m + j))) : dc on ah + 1 ≤ dc on ah' := by
  have e0 : dP on ah m i j = 0 := b2i_0 (fun q => q hu)
  have e1 : dP on ah' m i j = 1 := b2i_1 hn
  have key : dcm on ah m + 1 ≤ dcm on ah' m := by
    have h1 := dP_mono hB h m0 m1 (i := 0) (j := 1) (by omega) (by omega) (by omega) (by omega)
    have h2 := dP_mono hB h m0 m1 (i := 0) (j := 2) (by omega) (by omega) (by omega) (by omega)
    have h3 := dP_mono hB h m0 m1 (i := 0) (j := 3) (by omega) (by omega) (by omega) (by omega)
    have h4 := dP_mono hB h m0 m1 (i := 1) (j := 2) (by omega) (by omega) (by omega) (by omega)
    have h5 := dP_mono hB h m0 m1 (i := 1) (j := 3) (by omega) (by omega) (by omega) (by omega)
    have h6 := dP_mono hB h m0 m1 (i := 2) (j := 3) (by omega) (by omega) (by omega) (by omega)
    unfold dcm
    rcases (show (i = 0 ∧ j = 1) ∨ (i = 0 ∧ j = 2) ∨ (i = 0 ∧ j = 3) ∨ (i = 1 ∧ j = 2) ∨ (i = 1 ∧ j = 3) ∨ (i = 2 ∧ j = 3) by omega) with ⟨rfl, rfl⟩ | ⟨rfl, rfl⟩ | ⟨rfl, rfl⟩ | ⟨rfl, rfl⟩ | ⟨rfl, rfl⟩ | ⟨rfl, rfl⟩ <;> omega
  have h1 := dcm_mono hB h (m := 0) (by omega) (by omega)
  have h2 := dcm_mono hB h (m := 1) (by omega) (by omega)
  have h3 := dcm_mono hB h (m := 2) (by omega) (by omega)
  have h4 := dcm_mono hB h (m := 3) (by omega) (by omega)
  unfold dc
  rcases (show m = 0 ∨ m = 1 ∨ m = 2 ∨ m = 3 by omega) with rfl | rfl | rfl | rfl <;> omega
theorem dc_und {st mc du rd on ah : Int → Int} (hB : NB st mc du rd on) {m i j : Int} (m0 : 0 ≤ m) (m1 : m < 4) (i0 : 0 ≤ i) (i1 : i < j) (j1 : j < 4) (hu : und ah (on (4 * m + i)) (on (4 * m + j))) : dc on ah ≤ 23 := by
  have e0 : dP on ah m i j = 0 := b2i_0 (fun q => q hu)
  have key : ∀ m, (0 ≤ dcm on ah m ∧ dcm on ah m ≤ 6) ∧ ∀ i j, 0 ≤ i → i < j → j < 4 → dP on ah m i j = 0 → dcm on ah m ≤ 5 := by
    intro m
    have h1 := b2i_r (¬ und ah (on (4 * m + 0)) (on (4 * m + 1)))
    have h2 := b2i_r (¬ und ah (on (4 * m + 0)) (on (4 * m + 2)))
    have h3 := b2i_r (¬ und ah (on (4 * m + 0)) (on (4 * m + 3)))
    have h4 := b2i_r (¬ und ah (on (4 * m + 1)) (on (4 * m + 2)))
    have h5 := b2i_r (¬ und ah (on (4 * m + 1)) (on (4 * m + 3)))
    have h6 := b2i_r (¬ und ah (on (4 * m + 2)) (on (4 * m + 3)))
    unfold dcm dP
    refine ⟨by omega, fun i j i0 i1 j1 e => ?_⟩
    rcases (show (i = 0 ∧ j = 1) ∨ (i = 0 ∧ j = 2) ∨ (i = 0 ∧ j = 3) ∨ (i = 1 ∧ j = 2) ∨ (i = 1 ∧ j = 3) ∨ (i = 2 ∧ j = 3) by omega) with ⟨rfl, rfl⟩ | ⟨rfl, rfl⟩ | ⟨rfl, rfl⟩ | ⟨rfl, rfl⟩ | ⟨rfl, rfl⟩ | ⟨rfl, rfl⟩ <;> omega
  have h1 := (key 0).1
  have h2 := (key 1).1
  have h3 := (key 2).1
  have h4 := (key 3).1
  have h5 := (key m).2 i j i0 i1 j1 e0
  unfold dc
  rcases (show m = 0 ∨ m = 1 ∨ m = 2 ∨ m = 3 by omega) with rfl | rfl | rfl | rfl <;> omega
end
section
/-- forceOn: what is decided anew is forced; what is counted is decided; where nothing is counted, the pairs of Pr force nothing -/
def FoI (σ σ' : Mem) (n : Nat) (u : Int) (Pr : Int → Int → Int → Prop) (nw : Int) : Prop := FrG (pAh n) σ σ' ∧ nA σ' n ∧ mnA (σ 15 n) (σ 20 n) (σ' 20 n) ∧ (∀ y k, vOp (σ 15 n) y → 0 ≤ k → k < 4 → hasB (σ' 20 n y) k → hasB (σ 20 n y) k ∨ wy σ n u y (σ 19 n (4 * σ 16 n y + k))) ∧ 0 ≤ nw ∧ dc (σ 19 n) (σ 20 n) + nw ≤ dc (σ 19 n) (σ' 20 n) ∧ (nw = 0 → σ' 20 n = σ 20 n ∧ ∀ m i j, Pr m i j → und (σ 20 n) (σ 19 n (4 * m + i)) (σ 19 n (4 * m + j)) → ¬ wy σ n u (σ 19 n (4 * m + i)) (σ 19 n (4 * m + j)) ∧ ¬ wy σ n u (σ 19 n (4 * m + j)) (σ 19 n (4 * m + i)))
/-- two operations that force each other -/
def bth (σ : Mem) (n : Nat) (u : Int) : Prop := ∃ x y, vOp (σ 15 n) x ∧ vOp (σ 15 n) y ∧ x ≠ y ∧ σ 16 n x = σ 16 n y ∧ wy σ n u x y ∧ wy σ n u y x
theorem FoI_0 {σ : Mem} {n : Nat} {u : Int} {Pr : Int → Int → Int → Prop} (hA : nA σ n) (hP : ∀ m i j, ¬ Pr m i j) : FoI σ σ n u Pr 0 := ⟨FrG.r, hA, mnA.r, fun y k _ _ _ q => Or.inl q, by omega, by omega, fun _ => ⟨rfl, fun m i j p => absurd p (hP m i j)⟩⟩
theorem FoI_w {σ σ' : Mem} {n : Nat} {u nw : Int} {Pr Pr' : Int → Int → Int → Prop} (h : FoI σ σ' n u Pr nw) (hP : ∀ m i j, Pr' m i j → Pr m i j) : FoI σ σ' n u Pr' nw := ⟨h.1, h.2.1, h.2.2.1, h.2.2.2.1, h.2.2.2.2.1, h.2.2.2.2.2.1, fun q => ⟨(h.2.2.2.2.2.2 q).1, fun m i j p => (h.2.2.2.2.2.2 q).2 m i j (hP m i j p)⟩⟩
/-- a pair more that forces nothing, being decided or short enough -/
theorem FoI_no {σ σ' : Mem} {n : Nat} {u nw m i j : Int} {Pr Pr' : Int → Int → Int → Prop} (h : FoI σ σ' n u Pr nw) (hP : ∀ m' i' j', Pr' m' i' j' → Pr m' i' j' ∨ (m' = m ∧ i' = i ∧ j' = j)) (hn : und (σ' 20 n) (σ 19 n (4 * m + i)) (σ 19 n (4 * m + j)) → ¬ wy σ n u (σ 19 n (4 * m + i)) (σ 19 n (4 * m + j)) ∧ ¬ wy σ n u (σ 19 n (4 * m + j)) (σ 19 n (4 * m + i))) : FoI σ σ' n u Pr' nw := by
  refine ⟨h.1, h.2.1, h.2.2.1, h.2.2.2.1, h.2.2.2.2.1, h.2.2.2.2.2.1, fun q => ⟨(h.2.2.2.2.2.2 q).1, fun m' i' j' p hu => ?_⟩⟩
  rcases hP m' i' j' p with c | ⟨rfl, rfl, rfl⟩
  · exact (h.2.2.2.2.2.2 q).2 m' i' j' c hu
  · rw [← (h.2.2.2.2.2.2 q).1] at hu
    exact hn hu
/-- x is decided to go ahead of y -/
theorem FoI_dec {σ σ' : Mem} {n : Nat} {u nw m i j x y : Int} {Pr Pr' : Int → Int → Int → Prop} (hB : nB σ n) (h : FoI σ σ' n u Pr nw) (m0 : 0 ≤ m) (m1 : m < 4) (i0 : 0 ≤ i) (i1 : i < j) (j1 : j < 4) (hu : und (σ' 20 n) (σ 19 n (4 * m + i)) (σ 19 n (4 * m + j))) (hxy : (x = σ 19 n (4 * m + i) ∧ y = σ 19 n (4 * m + j)) ∨ (x = σ 19 n (4 * m + j) ∧ y = σ 19 n (4 * m + i))) (hw : wy σ n u y x) : FoI σ (up σ' 20 n y (bor (σ' 20 n y) (bshl 1 (x / 4)))) n u Pr' (nw + 1) := by
  obtain ⟨a1, a2, a3, a4, a5, a6, a7⟩ := h
  have e : ∀ t, t ≠ 20 → ∀ x, σ' t n x = σ t n x := fun t ht x => a1 t n x (fun q => ht q.1)
  obtain ⟨v1, w1, z1⟩ := hB.2.2 m i m0 m1 i0 (by omega) hu.1
  obtain ⟨v2, w2, z2⟩ := hB.2.2 m j m0 m1 (by omega) j1 hu.2.1
  have hx : vOp (σ 15 n) x ∧ σ 16 n x = m ∧ (x / 4 = i ∨ x / 4 = j) := by
    rcases hxy with ⟨c, -⟩ | ⟨c, -⟩ <;> subst c <;> simp [v1, v2, w1, w2, z1, z2]
  have hy : vOp (σ 15 n) y ∧ σ 16 n y = m ∧ (y / 4 = i ∨ y / 4 = j) := by
    rcases hxy with ⟨-, c⟩ | ⟨-, c⟩ <;> subst c <;> simp [v1, v2, w1, w2, z1, z2]
  have hne : x / 4 ≠ y / 4 := by
    rcases hxy with ⟨c, d⟩ | ⟨c, d⟩ <;> subst c <;> subst d <;> omega
  have hxj := vOp_j hx.1
  have hxe : σ 19 n (4 * m + x / 4) = x := by
    have := (hB.2.1 x hx.1).2.2.2.2.2.2
    rw [hx.2.1] at this
    exact this
  obtain ⟨r0, r1, r2⟩ := a2 y ((vOp_cg (fun j _ _ => e 15 (by omega) j) _).mpr hy.1)
  have bits : ∀ o k, 0 ≤ k → k < 4 → (hasB ((up σ' 20 n y (bor (σ' 20 n y) (bshl 1 (x / 4)))) 20 n o) k ↔ hasB (σ' 20 n o) k ∨ (o = y ∧ k = x / 4)) := by
    intro o k k0 k1
    rw [up_ap]
    by_cases c : o = y
    · subst c
      rw [if_pos ⟨rfl, rfl, rfl⟩, bit_or r0 r1 hxj.1 hxj.2.1 k0 k1]
      simp
    · rw [if_neg (fun q => c q.2.2)]
      simp [c]
  have hm2 : mnA (σ 15 n) (σ' 20 n) ((up σ' 20 n y (bor (σ' 20 n y) (bshl 1 (x / 4)))) 20 n) := fun o k v k0 k1 q => (bits o k k0 k1).mpr (Or.inl q)
  have hF : FrG (pAh n) σ' (up σ' 20 n y (bor (σ' 20 n y) (bshl 1 (x / 4)))) := FrG.r.u ⟨rfl, rfl⟩
  refine ⟨a1.t hF, fun o v => ?_, a3.t hm2, fun o k v k0 k1 q => ?_, by omega, ?_, fun q => by omega⟩
  · have f : ∀ t, t ≠ 20 → ∀ x', (up σ' 20 n y (bor (σ' 20 n y) (bshl 1 (x / 4)))) t n x' = σ' t n x' := fun t ht x' => hF t n x' (fun q => ht q.1)
    have v' : vOp (σ' 15 n) o := (vOp_cg (fun j _ _ => f 15 (by omega) j) _).mp v
    obtain ⟨s0, s1, s2⟩ := a2 o v'
    simp only [f 16 (by omega), f 19 (by omega)]
    refine ⟨?_, ?_, fun k k0 k1 q => ?_⟩
    · rw [up_ap]
      split
      · exact (bit_or_r r0 r1 hxj.1 hxj.2.1).1
      · exact s0
    · rw [up_ap]
      split
      · exact (bit_or_r r0 r1 hxj.1 hxj.2.1).2
      · exact s1
    · rcases (bits o k k0 k1).mp q with c | ⟨rfl, rfl⟩
      · exact s2 k k0 k1 c
      · refine ⟨hne, ?_⟩
        rw [e 16 (by omega), e 19 (by omega), hy.2.1, hxe]
        exact hx.1.1
  · rcases (bits o k k0 k1).mp q with c | ⟨rfl, rfl⟩
    · exact a4 o k v k0 k1 c
    · right
      rw [hy.2.1, hxe]
      exact hw
  · have := dc_step (ah := σ' 20 n) (ah' := (up σ' 20 n y (bor (σ' 20 n y) (bshl 1 (x / 4)))) 20 n) hB hm2 m0 m1 i0 i1 j1 hu (by
      rintro ⟨-, -, q1, q2⟩
      rcases hxy with ⟨c, d⟩ | ⟨c, d⟩
      · rw [← c, ← d] at q1
        exact q1 ((bits y (x / 4) hxj.1 hxj.2.1).mpr (Or.inr ⟨rfl, rfl⟩))
      · rw [← c, ← d] at q2
        exact q2 ((bits y (x / 4) hxj.1 hxj.2.1).mpr (Or.inr ⟨rfl, rfl⟩)))
    omega
theorem FoI_H {σ σ' : Mem} {n : Nat} {u nw : Int} {Pr : Int → Int → Int → Prop} (h : FoI σ σ' n u Pr nw) (x y : Int) : σ' 21 n x + σ' 17 n x + σ' 17 n y + σ' 22 n y = σ 21 n x + σ 17 n x + σ 17 n y + σ 22 n y := by
  have e : ∀ t, t ≠ 20 → ∀ x, σ' t n x = σ t n x := fun t ht x => h.1 t n x (fun q => ht q.1)
  rw [e 21 (by omega), e 17 (by omega), e 17 (by omega), e 22 (by omega)]
theorem FoI_e {σ σ' : Mem} {n : Nat} {u nw : Int} {Pr : Int → Int → Int → Prop} (h : FoI σ σ' n u Pr nw) (t : Nat) (ht : t ≠ 20) (x : Int) : σ' t n x = σ t n x := h.1 t n x (fun q => ht q.1)
/-- bounds of a pair -/
theorem nH_pair {σ : Mem} {n : Nat} {m i j : Int} (hB : nB σ n) (hH : nH σ n) (m0 : 0 ≤ m) (m1 : m < 4) (i0 : 0 ≤ i) (i1 : i < 4) (j0 : 0 ≤ j) (j1 : j < 4) : σ 19 n (4 * m + i) < 16 ∧ σ 19 n (4 * m + j) < 16 ∧ (0 ≤ σ 19 n (4 * m + i) → 0 ≤ σ 21 n (σ 19 n (4 * m + i)) ∧ σ 21 n (σ 19 n (4 * m + i)) ≤ 700 ∧ 0 ≤ σ 22 n (σ 19 n (4 * m + i)) ∧ σ 22 n (σ 19 n (4 * m + i)) ≤ 320 ∧ 1 ≤ σ 17 n (σ 19 n (4 * m + i)) ∧ σ 17 n (σ 19 n (4 * m + i)) ≤ 20) ∧ (0 ≤ σ 19 n (4 * m + j) → 0 ≤ σ 21 n (σ 19 n (4 * m + j)) ∧ σ 21 n (σ 19 n (4 * m + j)) ≤ 700 ∧ 0 ≤ σ 22 n (σ 19 n (4 * m + j)) ∧ σ 22 n (σ 19 n (4 * m + j)) ≤ 320 ∧ 1 ≤ σ 17 n (σ 19 n (4 * m + j)) ∧ σ 17 n (σ 19 n (4 * m + j)) ≤ 20) := by
  refine ⟨NB_16 hB m0 m1 i0 i1, NB_16 hB m0 m1 j0 j1, fun q => ?_, fun q => ?_⟩
  · have v := (hB.2.2 m i m0 m1 i0 i1 q).1
    have h1 := hH _ v
    have h2 := hB.2.1 _ v
    omega
  · have v := (hB.2.2 m j m0 m1 j0 j1 q).1
    have h1 := hH _ v
    have h2 := hB.2.1 _ v
    omega
/-- the pairs of m ahead of (a, b) -/
def prA (m a b m' i j : Int) : Prop := m' = m ∧ 0 ≤ i ∧ i < j ∧ j < 4 ∧ (i < a ∨ (i = a ∧ j < b))
def prM (m m' i j : Int) : Prop := m' = m ∧ 0 ≤ i ∧ i < j ∧ j < 4
theorem FoI_none {σ σ' : Mem} {n : Nat} {u nw m a b : Int} (h : FoI σ σ' n u (prA m a b) nw) (hn : ¬ und (σ' 20 n) (σ 19 n (4 * m + a)) (σ 19 n (4 * m + b))) : FoI σ σ' n u (prA m a (b + 1)) nw := FoI_no h (m := m) (i := a) (j := b) (fun m' i' j' p => by unfold prA at *; omega) (fun q => absurd q hn)
theorem FoI_short {σ σ' : Mem} {n : Nat} {u nw m a b : Int} (h : FoI σ σ' n u (prA m a b) nw) (h1 : ¬ wy σ n u (σ 19 n (4 * m + a)) (σ 19 n (4 * m + b))) (h2 : ¬ wy σ n u (σ 19 n (4 * m + b)) (σ 19 n (4 * m + a))) : FoI σ σ' n u (prA m a (b + 1)) nw := FoI_no h (m := m) (i := a) (j := b) (fun m' i' j' p => by unfold prA at *; omega) (fun _ => ⟨h1, h2⟩)
theorem FoI_row {σ σ' : Mem} {n : Nat} {u nw m a b : Int} (h : FoI σ σ' n u (prA m a b) nw) (hb : 4 ≤ b) : FoI σ σ' n u (prA m (a + 1) (a + 1 + 1)) nw := FoI_w h (fun m' i' j' p => by unfold prA at *; omega)
theorem FoI_end {σ σ' : Mem} {n : Nat} {u nw m a b : Int} (h : FoI σ σ' n u (prA m a b) nw) (ha : 4 ≤ a) : FoI σ σ' n u (prM m) nw := FoI_w h (fun m' i' j' p => by unfold prA; unfold prM at p; omega)
end
section
def ca_X1_followOrder : Nat → Option (Nat × Nat × Tr)
  | 71 => some (2, 1, T_X1_jobsOn)
  | 78 => some (4, 1, T_X1_letFirst)
  | _ => none
theorem cao_X1_followOrder (l : Launch) : ∀ k n' ci T', ca_X1_followOrder k = some (n', ci, T') → ∃ nn, nn + 1 ≤ 1 ∧ Site l yX1_followOrder.cls k n' ci nn T' := by
  intro k n' ci T' h
  unfold ca_X1_followOrder at h
  split at h
  · cases h; exact ⟨0, by decide, _, _, _, _, k_X1_jobsOn l, Or.inl ⟨_, rfl, FX1_jobsOn, KRX1_71⟩⟩
  · cases h; exact ⟨0, by decide, _, _, _, _, k_X1_letFirst l, Or.inl ⟨_, rfl, FX1_letFirst, KRX1_78⟩⟩
  · cases h
def T_X1_followOrder : Tr := fun a σ K => match a with
  | [.inr (.inl (1, n)), .inr (.inl (5, i)), .inl m, .inl pl] => (0 ≤ m ∧ m < 4 ∧ nB σ n ∧ nA σ n ∧ qB σ n i m ∧ 0 ≤ pl ∧ pl ≤ σ 13 i m) ∧ ∀ σ', FO σ σ' n i m pl → K none σ'
  | _ => False
set_option maxHeartbeats 8000000 in
set_option maxRecDepth 20000 in
theorem k_X1_followOrder (l : Launch) : Ct l yX1_followOrder cX1_followOrder 7 none 1 T_X1_followOrder := by
  refine mk_met (by decide +kernel) hCX1_followOrder lCX1_followOrder frX1_ok cstX1_ok (cao_X1_followOrder l) ?_ ?_
  · intro a σ K h
    unfold T_X1_followOrder at h
    split at h
    · simp [eL]
    · exact h.elim
  · intro a σ K ha hR h
    unfold T_X1_followOrder at h
    split at h
    · rename_i n i m pl
      refine ⟨fun pc => if pc = 10 then some (fun L S σ' k => match L, S with | [some (.inr (.inl c1)), some (.inr (.inl c2)), some (.inl m'), some (.inl pl'), some (.inl ot), some (.inl P), _], [] => (c1 = (1, n) ∧ c2 = (5, i) ∧ m' = m ∧ pl' = pl ∧ 0 ≤ P ∧ P ≤ pl ∧ FOo σ n i m P ot ∧ FO σ σ' n i m P) ∧ k = (10 - P).toNat | _, _ => False) else none, 200, ?_, ?_⟩
      · intro pc I L S σ' k hcut hi
        dsimp only at hcut
        split at hcut
        · rename_i hpc
          subst hpc
          cases hcut
          try dsimp only at hi
          split at hi
          · rename_i c1 c2 m' pl' ot P x1
            obtain ⟨hi, rfl⟩ := hi
            obtain ⟨rfl, rfl, rfl, rfl, h0, h1, ho, hI⟩ := hi
            obtain ⟨⟨p1, p2, p3, p4, p5, p6, p7⟩, h⟩ := h
            simp only [wp, stp, drp, entL, eL, lget, lset, okst, cnd, swt, rcv, Kr_int, Kr_bool, Kr_void, List.length_cons, List.length_nil, List.replicate, List.append_nil, List.cons_append, List.nil_append, List.take_succ_cons, List.take_zero, List.drop_succ_cons, List.drop_zero, List.reverse_cons, List.reverse_nil, Option.map_some, Option.map_none, Option.toList_some, Option.toList_none, Nat.reduceAdd, Nat.reduceSub, Nat.reduceLT, Nat.reduceLeDiff, Nat.reduceEqDiff, ↓reduceIte, Nat.add_zero, Nat.zero_add, true_and, and_true, Nat.le_refl, reduceCtorEq, false_implies, true_implies, not_true_eq_false, not_false_eq_true, Int.reduceAdd, Int.reduceSub, Int.reduceMul, Int.reduceLE, Int.reduceLT, Int.reduceEq, Int.reduceNe, Int.reduceNeg, Int.reduceDiv, Int.reduceMod, Bool.false_eq_true, Int.le_refl, and_self, true_or, or_true, inR_l, fv0, fv1, fv2, fv3, nc2, nc4, nc6, nc16, nc25, nc60, nc65, nc80, nc130, nc384, nc390, fp_0_0, fp_0_1, fp_0_2, fp_1_0, fp_1_1, fp_1_2, fp_1_3, fp_1_4, fp_1_5, fp_1_6, fp_1_7, fp_1_8, fp_1_9, fp_1_10, fp_1_11, fp_1_12, fp_1_13, fp_1_14, fp_2_0, fp_2_1, fp_2_2, fp_2_3, fp_3_0, fp_3_1, fp_4_0, fp_4_1, fp_4_2, fp_4_3, fp_4_4, fp_4_5, fp_4_6, fp_4_7, fp_5_0, fp_5_1, fp_5_2, fp_5_3, fp_5_4, fp_5_5, fp_5_6, fp_5_7, fp_6_0, fp_6_1, fp_6_2, fp_6_3, fp_6_4, fp_6_5, fp_6_6, fp_6_7, fp_6_8, fp_6_9, fp_6_10, fp_6_11, fp_6_12, fp_6_13, fp_6_14, fp_6_15, fp_7_0, fp_7_1, fp_7_2, fp_7_3, fp_7_4, fp_7_5, fp_7_6, fp_7_7, fp_7_8, fp_7_9, fp_7_10, fp_7_11, fp_7_12, fp_7_13, fp_7_14, fp_7_15, fp_7_16, fp_7_17, fp_7_18, fp_7_19, fp_7_20, fp_7_21, fp_7_22, fp_7_23, fp_7_24, iz_0_1, iz_0_2, iz_1_8, iz_1_9, iz_1_11, iz_2_1, iz_2_2, iz_2_3, iz_3_1, iz_4_1, iz_4_2, iz_5_0, iz_6_8, iz_6_9, iz_6_13, iz_6_14, iz_6_15, iz_7_2, iz_7_6, iz_7_12, iz_7_20, iz_7_21, iz_7_23, iz_7_24, ak_8, ak_9, ak_10, ak_11, ak_12, ak_13, ak_14, ak_15, ak_16, ak_17, ak_18, ak_19, ak_20, ak_21, ak_22, ak_23, ak_24, ak_25, ak_26, ak_27, ak_28, ak_29, ak_30, ak_31, ak_32, ak_33, ak_34, ak_35, ak_36, ak_37, ak_38, ak_39, ak_40, ak_41, ak_42, ak_43, ak_44, ak_45, ak_46, ak_47, ak_48, ak_49, ak_50, ak_51, ak_52, ak_53, ak_54, ak_55, ak_56, el31, el33, el34, CX1_followOrder, ca_X1_followOrder, frX1, kcX1, klX1, T_X1_jobsOn, T_X1_letFirst, up_ap, false_and, and_false, if_false, if_true, ite_true, ite_false, exists_eq_right_right, exists_eq_right, exists_eq_left, Nat.lt_irrefl, and_self, implies_true, forall_const]
            have e13 : ∀ x, σ' 13 i x = σ 13 i x := fun x => hI.1 13 i x (by rintro ⟨q, -⟩; omega)
            have e14 : ∀ x, σ' 14 i x = σ 14 i x := fun x => hI.1 14 i x (by rintro ⟨q, -⟩; omega)
            have e19 : ∀ x, σ' 19 n x = σ 19 n x := fun x => hI.1 19 n x (by rintro ⟨q, -⟩; omega)
            simp only [e13, e14, e19]
            have hinj := NB_inj p3 p1 p2
            have h16 : ∀ k, 0 ≤ k → k < 4 → σ 19 n (4 * m' + k) < 16 := fun k a b => NB_16 p3 p1 p2 a b
            have hp5 := p5.2.1
            have hb : 0 ≤ ot ∧ ot < 16 := ⟨ho.1, ho.2.1⟩
            by_cases hP : P < σ 13 i m'
            · have hj := p5.2.2 P h0 hP
              (repeat' (first | (with_reducible intro _) | (with_reducible refine And.intro ?_ ?_)))
              all_goals (try first | omega | exact ⟨by omega, by omega⟩)
              all_goals first | (exact h _ (by rw [show pl' = P by omega]; exact hI)) | (exact hinj _ _ (by assumption) (by assumption) (by assumption) (by assumption) (by assumption) (by assumption)) | (exact FOo_s ho h0 hj.1 hj.2.1) | (exact h16 _ (by assumption) (by assumption)) | (exact FO_s p3 p1 p2 p5 hI (FOo_s ho h0 hj.1 hj.2.1) h0 (by omega) (by assumption))
            · (repeat' (first | (with_reducible intro _) | (with_reducible refine And.intro ?_ ?_)))
              all_goals (try first | omega | exact ⟨by omega, by omega⟩)
              all_goals first | (exact h _ (by rw [show pl' = P by omega]; exact hI)) | (exfalso; omega)
          · exact hi.elim
        · cases hcut
      · simp only [wp, stp, drp, entL, eL, lget, lset, okst, cnd, swt, rcv, Kr_int, Kr_bool, Kr_void, List.length_cons, List.length_nil, List.replicate, List.append_nil, List.cons_append, List.nil_append, List.take_succ_cons, List.take_zero, List.drop_succ_cons, List.drop_zero, List.reverse_cons, List.reverse_nil, Option.map_some, Option.map_none, Option.toList_some, Option.toList_none, Nat.reduceAdd, Nat.reduceSub, Nat.reduceLT, Nat.reduceLeDiff, Nat.reduceEqDiff, ↓reduceIte, Nat.add_zero, Nat.zero_add, true_and, and_true, Nat.le_refl, reduceCtorEq, false_implies, true_implies, not_true_eq_false, not_false_eq_true, Int.reduceAdd, Int.reduceSub, Int.reduceMul, Int.reduceLE, Int.reduceLT, Int.reduceEq, Int.reduceNe, Int.reduceNeg, Int.reduceDiv, Int.reduceMod, Bool.false_eq_true, Int.le_refl, and_self, true_or, or_true, inR_l, fv0, fv1, fv2, fv3, nc2, nc4, nc6, nc16, nc25, nc60, nc65, nc80, nc130, nc384, nc390, fp_0_0, fp_0_1, fp_0_2, fp_1_0, fp_1_1, fp_1_2, fp_1_3, fp_1_4, fp_1_5, fp_1_6, fp_1_7, fp_1_8, fp_1_9, fp_1_10, fp_1_11, fp_1_12, fp_1_13, fp_1_14, fp_2_0, fp_2_1, fp_2_2, fp_2_3, fp_3_0, fp_3_1, fp_4_0, fp_4_1, fp_4_2, fp_4_3, fp_4_4, fp_4_5, fp_4_6, fp_4_7, fp_5_0, fp_5_1, fp_5_2, fp_5_3, fp_5_4, fp_5_5, fp_5_6, fp_5_7, fp_6_0, fp_6_1, fp_6_2, fp_6_3, fp_6_4, fp_6_5, fp_6_6, fp_6_7, fp_6_8, fp_6_9, fp_6_10, fp_6_11, fp_6_12, fp_6_13, fp_6_14, fp_6_15, fp_7_0, fp_7_1, fp_7_2, fp_7_3, fp_7_4, fp_7_5, fp_7_6, fp_7_7, fp_7_8, fp_7_9, fp_7_10, fp_7_11, fp_7_12, fp_7_13, fp_7_14, fp_7_15, fp_7_16, fp_7_17, fp_7_18, fp_7_19, fp_7_20, fp_7_21, fp_7_22, fp_7_23, fp_7_24, iz_0_1, iz_0_2, iz_1_8, iz_1_9, iz_1_11, iz_2_1, iz_2_2, iz_2_3, iz_3_1, iz_4_1, iz_4_2, iz_5_0, iz_6_8, iz_6_9, iz_6_13, iz_6_14, iz_6_15, iz_7_2, iz_7_6, iz_7_12, iz_7_20, iz_7_21, iz_7_23, iz_7_24, ak_8, ak_9, ak_10, ak_11, ak_12, ak_13, ak_14, ak_15, ak_16, ak_17, ak_18, ak_19, ak_20, ak_21, ak_22, ak_23, ak_24, ak_25, ak_26, ak_27, ak_28, ak_29, ak_30, ak_31, ak_32, ak_33, ak_34, ak_35, ak_36, ak_37, ak_38, ak_39, ak_40, ak_41, ak_42, ak_43, ak_44, ak_45, ak_46, ak_47, ak_48, ak_49, ak_50, ak_51, ak_52, ak_53, ak_54, ak_55, ak_56, el31, el33, el34, CX1_followOrder, ca_X1_followOrder, frX1, kcX1, klX1, T_X1_jobsOn, T_X1_letFirst, up_ap, false_and, and_false, if_false, if_true, ite_true, ite_false, exists_eq_right_right, exists_eq_right, exists_eq_left, Nat.lt_irrefl, and_self, implies_true, forall_const]
        obtain ⟨⟨p1, p2, p3, p4, p5, p6, p7⟩, h⟩ := h
        (repeat' (first | (with_reducible intro _) | (with_reducible refine And.intro ?_ ?_)))
        all_goals (try first | omega | exact ⟨by omega, by omega⟩)
        all_goals first | (exact FO_0 p4) | (exact FOo_0 (by assumption) (by assumption) (by assumption))
    · exact h.elim
def ca_X1_followOrders : Nat → Option (Nat × Nat × Tr)
  | 67 => some (4, 1, T_X1_followOrder)
  | _ => none
theorem cao_X1_followOrders (l : Launch) : ∀ k n' ci T', ca_X1_followOrders k = some (n', ci, T') → ∃ nn, nn + 1 ≤ 2 ∧ Site l yX1_followOrders.cls k n' ci nn T' := by
  intro k n' ci T' h
  unfold ca_X1_followOrders at h
  split at h
  · cases h; exact ⟨1, by decide, _, _, _, _, k_X1_followOrder l, Or.inl ⟨_, rfl, FX1_followOrder, KRX1_67⟩⟩
  · cases h
def T_X1_followOrders : Tr := fun a σ K => match a with
  | [.inr (.inl (1, n)), .inr (.inl (5, i))] => (nB σ n ∧ nA σ n ∧ (∀ m, 0 ≤ m → m < 4 → qB σ n i m)) ∧ ∀ σ', FS σ σ' n i 4 → K none σ'
  | _ => False
set_option maxHeartbeats 8000000 in
set_option maxRecDepth 20000 in
theorem k_X1_followOrders (l : Launch) : Ct l yX1_followOrders cX1_followOrders 3 none 2 T_X1_followOrders := by
  refine mk_met (by decide +kernel) hCX1_followOrders lCX1_followOrders frX1_ok cstX1_ok (cao_X1_followOrders l) ?_ ?_
  · intro a σ K h
    unfold T_X1_followOrders at h
    split at h
    · simp [eL]
    · exact h.elim
  · intro a σ K ha hR h
    unfold T_X1_followOrders at h
    split at h
    · rename_i n i
      refine ⟨fun pc => if pc = 2 then some (fun L S σ' k => match L, S with | [some (.inr (.inl c1)), some (.inr (.inl c2)), some (.inl M)], [] => (c1 = (1, n) ∧ c2 = (5, i) ∧ 0 ≤ M ∧ M ≤ 4 ∧ FS σ σ' n i M) ∧ k = (10 - M).toNat | _, _ => False) else none, 200, ?_, ?_⟩
      · intro pc I L S σ' k hcut hi
        dsimp only at hcut
        split at hcut
        · rename_i hpc
          subst hpc
          cases hcut
          try dsimp only at hi
          split at hi
          · rename_i c1 c2 M
            obtain ⟨hi, rfl⟩ := hi
            obtain ⟨rfl, rfl, h0, h1, hI⟩ := hi
            obtain ⟨⟨p3, p4, p5⟩, h⟩ := h
            simp only [wp, stp, drp, entL, eL, lget, lset, okst, cnd, swt, rcv, Kr_int, Kr_bool, Kr_void, List.length_cons, List.length_nil, List.replicate, List.append_nil, List.cons_append, List.nil_append, List.take_succ_cons, List.take_zero, List.drop_succ_cons, List.drop_zero, List.reverse_cons, List.reverse_nil, Option.map_some, Option.map_none, Option.toList_some, Option.toList_none, Nat.reduceAdd, Nat.reduceSub, Nat.reduceLT, Nat.reduceLeDiff, Nat.reduceEqDiff, ↓reduceIte, Nat.add_zero, Nat.zero_add, true_and, and_true, Nat.le_refl, reduceCtorEq, false_implies, true_implies, not_true_eq_false, not_false_eq_true, Int.reduceAdd, Int.reduceSub, Int.reduceMul, Int.reduceLE, Int.reduceLT, Int.reduceEq, Int.reduceNe, Int.reduceNeg, Int.reduceDiv, Int.reduceMod, Bool.false_eq_true, Int.le_refl, and_self, true_or, or_true, inR_l, fv0, fv1, fv2, fv3, nc2, nc4, nc6, nc16, nc25, nc60, nc65, nc80, nc130, nc384, nc390, fp_0_0, fp_0_1, fp_0_2, fp_1_0, fp_1_1, fp_1_2, fp_1_3, fp_1_4, fp_1_5, fp_1_6, fp_1_7, fp_1_8, fp_1_9, fp_1_10, fp_1_11, fp_1_12, fp_1_13, fp_1_14, fp_2_0, fp_2_1, fp_2_2, fp_2_3, fp_3_0, fp_3_1, fp_4_0, fp_4_1, fp_4_2, fp_4_3, fp_4_4, fp_4_5, fp_4_6, fp_4_7, fp_5_0, fp_5_1, fp_5_2, fp_5_3, fp_5_4, fp_5_5, fp_5_6, fp_5_7, fp_6_0, fp_6_1, fp_6_2, fp_6_3, fp_6_4, fp_6_5, fp_6_6, fp_6_7, fp_6_8, fp_6_9, fp_6_10, fp_6_11, fp_6_12, fp_6_13, fp_6_14, fp_6_15, fp_7_0, fp_7_1, fp_7_2, fp_7_3, fp_7_4, fp_7_5, fp_7_6, fp_7_7, fp_7_8, fp_7_9, fp_7_10, fp_7_11, fp_7_12, fp_7_13, fp_7_14, fp_7_15, fp_7_16, fp_7_17, fp_7_18, fp_7_19, fp_7_20, fp_7_21, fp_7_22, fp_7_23, fp_7_24, iz_0_1, iz_0_2, iz_1_8, iz_1_9, iz_1_11, iz_2_1, iz_2_2, iz_2_3, iz_3_1, iz_4_1, iz_4_2, iz_5_0, iz_6_8, iz_6_9, iz_6_13, iz_6_14, iz_6_15, iz_7_2, iz_7_6, iz_7_12, iz_7_20, iz_7_21, iz_7_23, iz_7_24, ak_8, ak_9, ak_10, ak_11, ak_12, ak_13, ak_14, ak_15, ak_16, ak_17, ak_18, ak_19, ak_20, ak_21, ak_22, ak_23, ak_24, ak_25, ak_26, ak_27, ak_28, ak_29, ak_30, ak_31, ak_32, ak_33, ak_34, ak_35, ak_36, ak_37, ak_38, ak_39, ak_40, ak_41, ak_42, ak_43, ak_44, ak_45, ak_46, ak_47, ak_48, ak_49, ak_50, ak_51, ak_52, ak_53, ak_54, ak_55, ak_56, el31, el33, el34, CX1_followOrders, ca_X1_followOrders, frX1, kcX1, klX1, T_X1_followOrder, up_ap, false_and, and_false, if_false, if_true, ite_true, ite_false, exists_eq_right_right, exists_eq_right, exists_eq_left, Nat.lt_irrefl, and_self, implies_true, forall_const]
            have e : ∀ t, t ≠ 20 → ∀ i x, σ' t i x = σ t i x := fun t ht i x => hI.1 t i x (fun q => ht q.1)
            have hB' : nB σ' n := by
              unfold nB
              rw [hI.1.f 15 n (by rintro x ⟨q, -⟩; omega), hI.1.f 16 n (by rintro x ⟨q, -⟩; omega), hI.1.f 17 n (by rintro x ⟨q, -⟩; omega), hI.1.f 18 n (by rintro x ⟨q, -⟩; omega), hI.1.f 19 n (by rintro x ⟨q, -⟩; omega)]
              exact p3
            have hq : M < 4 → qB σ' n i M := by
              intro q
              have := p5 M h0 q
              unfold qB at this ⊢
              simp only [e 13 (by omega), e 14 (by omega), e 19 (by omega)]
              exact this
            (repeat' (first | (with_reducible intro _) | (with_reducible refine And.intro ?_ ?_)))
            all_goals (try first | omega | exact ⟨by omega, by omega⟩)
            all_goals first | (exact h _ (by rw [show (4 : Int) = M by omega]; exact hI)) | (exact hB') | (exact hI.2.1) | (exact hq (by omega)) | (exact (hq (by omega)).1) | (exact Int.le_refl _) | (exact FS_s p3 hI h0 (by omega) (by rw [← e 13 (by omega)]; assumption))
          · exact hi.elim
        · cases hcut
      · simp only [wp, stp, drp, entL, eL, lget, lset, okst, cnd, swt, rcv, Kr_int, Kr_bool, Kr_void, List.length_cons, List.length_nil, List.replicate, List.append_nil, List.cons_append, List.nil_append, List.take_succ_cons, List.take_zero, List.drop_succ_cons, List.drop_zero, List.reverse_cons, List.reverse_nil, Option.map_some, Option.map_none, Option.toList_some, Option.toList_none, Nat.reduceAdd, Nat.reduceSub, Nat.reduceLT, Nat.reduceLeDiff, Nat.reduceEqDiff, ↓reduceIte, Nat.add_zero, Nat.zero_add, true_and, and_true, Nat.le_refl, reduceCtorEq, false_implies, true_implies, not_true_eq_false, not_false_eq_true, Int.reduceAdd, Int.reduceSub, Int.reduceMul, Int.reduceLE, Int.reduceLT, Int.reduceEq, Int.reduceNe, Int.reduceNeg, Int.reduceDiv, Int.reduceMod, Bool.false_eq_true, Int.le_refl, and_self, true_or, or_true, inR_l, fv0, fv1, fv2, fv3, nc2, nc4, nc6, nc16, nc25, nc60, nc65, nc80, nc130, nc384, nc390, fp_0_0, fp_0_1, fp_0_2, fp_1_0, fp_1_1, fp_1_2, fp_1_3, fp_1_4, fp_1_5, fp_1_6, fp_1_7, fp_1_8, fp_1_9, fp_1_10, fp_1_11, fp_1_12, fp_1_13, fp_1_14, fp_2_0, fp_2_1, fp_2_2, fp_2_3, fp_3_0, fp_3_1, fp_4_0, fp_4_1, fp_4_2, fp_4_3, fp_4_4, fp_4_5, fp_4_6, fp_4_7, fp_5_0, fp_5_1, fp_5_2, fp_5_3, fp_5_4, fp_5_5, fp_5_6, fp_5_7, fp_6_0, fp_6_1, fp_6_2, fp_6_3, fp_6_4, fp_6_5, fp_6_6, fp_6_7, fp_6_8, fp_6_9, fp_6_10, fp_6_11, fp_6_12, fp_6_13, fp_6_14, fp_6_15, fp_7_0, fp_7_1, fp_7_2, fp_7_3, fp_7_4, fp_7_5, fp_7_6, fp_7_7, fp_7_8, fp_7_9, fp_7_10, fp_7_11, fp_7_12, fp_7_13, fp_7_14, fp_7_15, fp_7_16, fp_7_17, fp_7_18, fp_7_19, fp_7_20, fp_7_21, fp_7_22, fp_7_23, fp_7_24, iz_0_1, iz_0_2, iz_1_8, iz_1_9, iz_1_11, iz_2_1, iz_2_2, iz_2_3, iz_3_1, iz_4_1, iz_4_2, iz_5_0, iz_6_8, iz_6_9, iz_6_13, iz_6_14, iz_6_15, iz_7_2, iz_7_6, iz_7_12, iz_7_20, iz_7_21, iz_7_23, iz_7_24, ak_8, ak_9, ak_10, ak_11, ak_12, ak_13, ak_14, ak_15, ak_16, ak_17, ak_18, ak_19, ak_20, ak_21, ak_22, ak_23, ak_24, ak_25, ak_26, ak_27, ak_28, ak_29, ak_30, ak_31, ak_32, ak_33, ak_34, ak_35, ak_36, ak_37, ak_38, ak_39, ak_40, ak_41, ak_42, ak_43, ak_44, ak_45, ak_46, ak_47, ak_48, ak_49, ak_50, ak_51, ak_52, ak_53, ak_54, ak_55, ak_56, el31, el33, el34, CX1_followOrders, ca_X1_followOrders, frX1, kcX1, klX1, T_X1_followOrder, up_ap, false_and, and_false, if_false, if_true, ite_true, ite_false, exists_eq_right_right, exists_eq_right, exists_eq_left, Nat.lt_irrefl, and_self, implies_true, forall_const]
        obtain ⟨⟨p3, p4, p5⟩, h⟩ := h
        (repeat' (first | (with_reducible intro _) | (with_reducible refine And.intro ?_ ?_)))
        all_goals (try first | omega | exact ⟨by omega, by omega⟩)
        all_goals first | (exact FS_0 p4)
    · exact h.elim
end
section
def ca_X1_forceOn : Nat → Option (Nat × Nat × Tr)
  | 113 => some (3, 1, T_X1_undecided)
  | 116 => some (3, 1, T_X1_wayThrough)
  | 119 => some (3, 1, T_X1_decide)
  | _ => none
theorem cao_X1_forceOn (l : Launch) : ∀ k n' ci T', ca_X1_forceOn k = some (n', ci, T') → ∃ nn, nn + 1 ≤ 2 ∧ Site l yX1_forceOn.cls k n' ci nn T' := by
  intro k n' ci T' h
  unfold ca_X1_forceOn at h
  split at h
  · cases h; exact ⟨1, by decide, _, _, _, _, k_X1_undecided l, Or.inl ⟨_, rfl, FX1_undecided, KRX1_113⟩⟩
  · cases h; exact ⟨1, by decide, _, _, _, _, k_X1_wayThrough l, Or.inl ⟨_, rfl, FX1_wayThrough, KRX1_116⟩⟩
  · cases h; exact ⟨0, by decide, _, _, _, _, k_X1_decide l, Or.inl ⟨_, rfl, FX1_decide, KRX1_119⟩⟩
  · cases h
def T_X1_forceOn : Tr := fun a σ K => match a with
  | [.inr (.inl (1, n)), .inl m, .inl u] => (0 ≤ m ∧ m < 4 ∧ nB σ n ∧ nA σ n ∧ nH σ n) ∧ (∀ σ', FrG (pAh n) σ σ' → nA σ' n → bth σ n u → K (some (-5)) σ') ∧ (∀ r σ', FoI σ σ' n u (prM m) r → r ≤ 24 → K (some r) σ')
  | _ => False
set_option maxHeartbeats 8000000 in
set_option maxRecDepth 20000 in
theorem k_X1_forceOn (l : Launch) : Ct l yX1_forceOn cX1_forceOn 10 (some .int) 2 T_X1_forceOn := by
  refine mk_met (by decide +kernel) hCX1_forceOn lCX1_forceOn frX1_ok cstX1_ok (cao_X1_forceOn l) ?_ ?_
  · intro a σ K h
    unfold T_X1_forceOn at h
    split at h
    · simp [eL]
    · exact h.elim
  · intro a σ K ha hR h
    unfold T_X1_forceOn at h
    split at h
    · rename_i n m u
      refine ⟨fun pc => if pc = 5 then some (fun L S σ' k => match L, S with | [some (.inr (.inl c1)), some (.inl m'), some (.inl u'), some (.inl nw), some (.inl a), _, _, _, _, _], [] => (c1 = (1, n) ∧ m' = m ∧ u' = u ∧ 0 ≤ a ∧ a ≤ 4 ∧ FoI σ σ' n u (prA m a (a + 1)) nw) ∧ k = (10 - a).toNat * 100 | _, _ => False) else if pc = 17 then some (fun L S σ' k => match L, S with | [some (.inr (.inl c1)), some (.inl m'), some (.inl u'), some (.inl nw), some (.inl a), some (.inl b), _, _, _, _], [] => (c1 = (1, n) ∧ m' = m ∧ u' = u ∧ 0 ≤ a ∧ a < 4 ∧ a < b ∧ b ≤ 4 ∧ FoI σ σ' n u (prA m a b) nw) ∧ k = (9 - a).toNat * 100 + (20 - b).toNat | _, _ => False) else none, 200, ?_, ?_⟩
      · intro pc I L S σ' k hcut hi
        dsimp only at hcut
        split at hcut
        · rename_i hpc
          subst hpc
          cases hcut
          try dsimp only at hi
          split at hi
          · rename_i c1 m' u' nw a x1 x2 x3 x4 x5
            obtain ⟨hi, rfl⟩ := hi
            obtain ⟨rfl, rfl, rfl, h0, h1, hI⟩ := hi
            obtain ⟨⟨p1, p2, p3, p4, p5⟩, hbad, h⟩ := h
            simp only [wp, stp, drp, entL, eL, lget, lset, okst, cnd, swt, rcv, Kr_int, Kr_bool, Kr_void, List.length_cons, List.length_nil, List.replicate, List.append_nil, List.cons_append, List.nil_append, List.take_succ_cons, List.take_zero, List.drop_succ_cons, List.drop_zero, List.reverse_cons, List.reverse_nil, Option.map_some, Option.map_none, Option.toList_some, Option.toList_none, Nat.reduceAdd, Nat.reduceSub, Nat.reduceLT, Nat.reduceLeDiff, Nat.reduceEqDiff, ↓reduceIte, Nat.add_zero, Nat.zero_add, true_and, and_true, Nat.le_refl, reduceCtorEq, false_implies, true_implies, not_true_eq_false, not_false_eq_true, Int.reduceAdd, Int.reduceSub, Int.reduceMul, Int.reduceLE, Int.reduceLT, Int.reduceEq, Int.reduceNe, Int.reduceNeg, Int.reduceDiv, Int.reduceMod, Bool.false_eq_true, Int.le_refl, and_self, true_or, or_true, inR_l, fv0, fv1, fv2, fv3, nc2, nc4, nc6, nc16, nc25, nc60, nc65, nc80, nc130, nc384, nc390, fp_0_0, fp_0_1, fp_0_2, fp_1_0, fp_1_1, fp_1_2, fp_1_3, fp_1_4, fp_1_5, fp_1_6, fp_1_7, fp_1_8, fp_1_9, fp_1_10, fp_1_11, fp_1_12, fp_1_13, fp_1_14, fp_2_0, fp_2_1, fp_2_2, fp_2_3, fp_3_0, fp_3_1, fp_4_0, fp_4_1, fp_4_2, fp_4_3, fp_4_4, fp_4_5, fp_4_6, fp_4_7, fp_5_0, fp_5_1, fp_5_2, fp_5_3, fp_5_4, fp_5_5, fp_5_6, fp_5_7, fp_6_0, fp_6_1, fp_6_2, fp_6_3, fp_6_4, fp_6_5, fp_6_6, fp_6_7, fp_6_8, fp_6_9, fp_6_10, fp_6_11, fp_6_12, fp_6_13, fp_6_14, fp_6_15, fp_7_0, fp_7_1, fp_7_2, fp_7_3, fp_7_4, fp_7_5, fp_7_6, fp_7_7, fp_7_8, fp_7_9, fp_7_10, fp_7_11, fp_7_12, fp_7_13, fp_7_14, fp_7_15, fp_7_16, fp_7_17, fp_7_18, fp_7_19, fp_7_20, fp_7_21, fp_7_22, fp_7_23, fp_7_24, iz_0_1, iz_0_2, iz_1_8, iz_1_9, iz_1_11, iz_2_1, iz_2_2, iz_2_3, iz_3_1, iz_4_1, iz_4_2, iz_5_0, iz_6_8, iz_6_9, iz_6_13, iz_6_14, iz_6_15, iz_7_2, iz_7_6, iz_7_12, iz_7_20, iz_7_21, iz_7_23, iz_7_24, ak_8, ak_9, ak_10, ak_11, ak_12, ak_13, ak_14, ak_15, ak_16, ak_17, ak_18, ak_19, ak_20, ak_21, ak_22, ak_23, ak_24, ak_25, ak_26, ak_27, ak_28, ak_29, ak_30, ak_31, ak_32, ak_33, ak_34, ak_35, ak_36, ak_37, ak_38, ak_39, ak_40, ak_41, ak_42, ak_43, ak_44, ak_45, ak_46, ak_47, ak_48, ak_49, ak_50, ak_51, ak_52, ak_53, ak_54, ak_55, ak_56, el31, el33, el34, CX1_forceOn, ca_X1_forceOn, frX1, kcX1, klX1, T_X1_undecided, T_X1_wayThrough, T_X1_decide, up_ap, false_and, and_false, if_false, if_true, ite_true, ite_false, exists_eq_right_right, exists_eq_right, exists_eq_left, Nat.lt_irrefl, and_self, implies_true, forall_const]
            (repeat' (first | (with_reducible intro _) | (with_reducible refine And.intro ?_ ?_)))
            all_goals (try first | omega | exact ⟨by omega, by omega⟩)
            all_goals first | (exact h _ _ (FoI_end hI (by omega)) (by have := dc_r (σ 19 n) (σ' 20 n); have := dc_r (σ 19 n) (σ 20 n); have := hI.2.2.2.2.2.1; omega)) | (exact hI)
          · exact hi.elim
        · split at hcut
          · rename_i hpc
            subst hpc
            cases hcut
            try dsimp only at hi
            split at hi
            · rename_i c1 m' u' nw a b x1 x2 x3 x4
              obtain ⟨hi, rfl⟩ := hi
              obtain ⟨rfl, rfl, rfl, h0, h1, h2, h3, hI⟩ := hi
              obtain ⟨⟨p1, p2, p3, p4, p5⟩, hbad, h⟩ := h
              simp only [wp, stp, drp, entL, eL, lget, lset, okst, cnd, swt, rcv, Kr_int, Kr_bool, Kr_void, List.length_cons, List.length_nil, List.replicate, List.append_nil, List.cons_append, List.nil_append, List.take_succ_cons, List.take_zero, List.drop_succ_cons, List.drop_zero, List.reverse_cons, List.reverse_nil, Option.map_some, Option.map_none, Option.toList_some, Option.toList_none, Nat.reduceAdd, Nat.reduceSub, Nat.reduceLT, Nat.reduceLeDiff, Nat.reduceEqDiff, ↓reduceIte, Nat.add_zero, Nat.zero_add, true_and, and_true, Nat.le_refl, reduceCtorEq, false_implies, true_implies, not_true_eq_false, not_false_eq_true, Int.reduceAdd, Int.reduceSub, Int.reduceMul, Int.reduceLE, Int.reduceLT, Int.reduceEq, Int.reduceNe, Int.reduceNeg, Int.reduceDiv, Int.reduceMod, Bool.false_eq_true, Int.le_refl, and_self, true_or, or_true, inR_l, fv0, fv1, fv2, fv3, nc2, nc4, nc6, nc16, nc25, nc60, nc65, nc80, nc130, nc384, nc390, fp_0_0, fp_0_1, fp_0_2, fp_1_0, fp_1_1, fp_1_2, fp_1_3, fp_1_4, fp_1_5, fp_1_6, fp_1_7, fp_1_8, fp_1_9, fp_1_10, fp_1_11, fp_1_12, fp_1_13, fp_1_14, fp_2_0, fp_2_1, fp_2_2, fp_2_3, fp_3_0, fp_3_1, fp_4_0, fp_4_1, fp_4_2, fp_4_3, fp_4_4, fp_4_5, fp_4_6, fp_4_7, fp_5_0, fp_5_1, fp_5_2, fp_5_3, fp_5_4, fp_5_5, fp_5_6, fp_5_7, fp_6_0, fp_6_1, fp_6_2, fp_6_3, fp_6_4, fp_6_5, fp_6_6, fp_6_7, fp_6_8, fp_6_9, fp_6_10, fp_6_11, fp_6_12, fp_6_13, fp_6_14, fp_6_15, fp_7_0, fp_7_1, fp_7_2, fp_7_3, fp_7_4, fp_7_5, fp_7_6, fp_7_7, fp_7_8, fp_7_9, fp_7_10, fp_7_11, fp_7_12, fp_7_13, fp_7_14, fp_7_15, fp_7_16, fp_7_17, fp_7_18, fp_7_19, fp_7_20, fp_7_21, fp_7_22, fp_7_23, fp_7_24, iz_0_1, iz_0_2, iz_1_8, iz_1_9, iz_1_11, iz_2_1, iz_2_2, iz_2_3, iz_3_1, iz_4_1, iz_4_2, iz_5_0, iz_6_8, iz_6_9, iz_6_13, iz_6_14, iz_6_15, iz_7_2, iz_7_6, iz_7_12, iz_7_20, iz_7_21, iz_7_23, iz_7_24, ak_8, ak_9, ak_10, ak_11, ak_12, ak_13, ak_14, ak_15, ak_16, ak_17, ak_18, ak_19, ak_20, ak_21, ak_22, ak_23, ak_24, ak_25, ak_26, ak_27, ak_28, ak_29, ak_30, ak_31, ak_32, ak_33, ak_34, ak_35, ak_36, ak_37, ak_38, ak_39, ak_40, ak_41, ak_42, ak_43, ak_44, ak_45, ak_46, ak_47, ak_48, ak_49, ak_50, ak_51, ak_52, ak_53, ak_54, ak_55, ak_56, el31, el33, el34, CX1_forceOn, ca_X1_forceOn, frX1, kcX1, klX1, T_X1_undecided, T_X1_wayThrough, T_X1_decide, up_ap, false_and, and_false, if_false, if_true, ite_true, ite_false, exists_eq_right_right, exists_eq_right, exists_eq_left, Nat.lt_irrefl, and_self, implies_true, forall_const]
              have e : ∀ t, t ≠ 20 → ∀ x, σ' t n x = σ t n x := fun t ht x => hI.1 t n x (fun q => ht q.1)
              simp only [e 17 (by omega), e 19 (by omega), e 21 (by omega), e 22 (by omega)]
              have hr := dc_r (σ 19 n) (σ' 20 n)
              have hr2 := dc_r (σ 19 n) (σ 20 n)
              have hr3 := hI.2.2.2.2.1
              have hr4 := hI.2.2.2.2.2.1
              have hc : (0 ≤ (σ 19 n (4 * m' + a)) ∧ 0 ≤ (σ 19 n (4 * m' + b)) ∧ band (bshr (σ' 20 n (σ 19 n (4 * m' + b))) ((σ 19 n (4 * m' + a)) / 4)) 1 = 0 ∧ band (bshr (σ' 20 n (σ 19 n (4 * m' + a))) ((σ 19 n (4 * m' + b)) / 4)) 1 = 0) ↔ und (σ' 20 n) (σ 19 n (4 * m' + a)) (σ 19 n (4 * m' + b)) := by
                unfold und
                simp [hasB]
              by_cases hb : b < 4
              · obtain ⟨b1, b2, b3, b4⟩ := nH_pair p3 p5 p1 p2 h0 h1 (show 0 ≤ b by omega) hb
                by_cases hu : und (σ' 20 n) (σ 19 n (4 * m' + a)) (σ 19 n (4 * m' + b))
                · simp only [if_pos (hc.mpr hu)]
                  obtain ⟨u1, u2, u3, u4⟩ := b3 hu.1
                  obtain ⟨w1, w2, w3, w4⟩ := b4 hu.2.1
                  obtain ⟨v1, v2, v3⟩ := p3.2.2 m' a p1 p2 h0 h1 hu.1
                  obtain ⟨z1, z2, z3⟩ := p3.2.2 m' b p1 p2 (by omega) hb hu.2.1
                  have hu1 := hu.1
                  have hu2 := hu.2.1
                  (repeat' (first | (with_reducible intro _) | (with_reducible refine And.intro ?_ ?_)))
                  all_goals (try first | omega | exact ⟨by omega, by omega⟩)
                  all_goals first | (exfalso; omega) | (exact hbad _ hI.1 hI.2.1 ⟨(σ 19 n (4 * m' + a)), (σ 19 n (4 * m' + b)), v1, z1, by omega, by omega, (by unfold wy; omega), (by unfold wy; omega)⟩) | (exact FoI_short hI (by unfold wy; omega) (by unfold wy; omega)) | (exact FoI_dec p3 hI p1 p2 h0 h2 hb hu (Or.inl ⟨rfl, rfl⟩) (by unfold wy; omega)) | (exact FoI_dec p3 hI p1 p2 h0 h2 hb hu (Or.inr ⟨rfl, rfl⟩) (by unfold wy; omega))
                · simp only [if_neg (fun q => hu (hc.mp q))]
                  (repeat' (first | (with_reducible intro _) | (with_reducible refine And.intro ?_ ?_)))
                  all_goals (try first | omega | exact ⟨by omega, by omega⟩)
                  all_goals first | (exfalso; omega) | (exact FoI_none hI hu)
              · (repeat' (first | (with_reducible intro _) | (with_reducible refine And.intro ?_ ?_)))
                all_goals (try first | omega | exact ⟨by omega, by omega⟩)
                all_goals first | (exact FoI_row hI (by omega)) | (exfalso; omega)
            · exact hi.elim
          · cases hcut
      · simp only [wp, stp, drp, entL, eL, lget, lset, okst, cnd, swt, rcv, Kr_int, Kr_bool, Kr_void, List.length_cons, List.length_nil, List.replicate, List.append_nil, List.cons_append, List.nil_append, List.take_succ_cons, List.take_zero, List.drop_succ_cons, List.drop_zero, List.reverse_cons, List.reverse_nil, Option.map_some, Option.map_none, Option.toList_some, Option.toList_none, Nat.reduceAdd, Nat.reduceSub, Nat.reduceLT, Nat.reduceLeDiff, Nat.reduceEqDiff, ↓reduceIte, Nat.add_zero, Nat.zero_add, true_and, and_true, Nat.le_refl, reduceCtorEq, false_implies, true_implies, not_true_eq_false, not_false_eq_true, Int.reduceAdd, Int.reduceSub, Int.reduceMul, Int.reduceLE, Int.reduceLT, Int.reduceEq, Int.reduceNe, Int.reduceNeg, Int.reduceDiv, Int.reduceMod, Bool.false_eq_true, Int.le_refl, and_self, true_or, or_true, inR_l, fv0, fv1, fv2, fv3, nc2, nc4, nc6, nc16, nc25, nc60, nc65, nc80, nc130, nc384, nc390, fp_0_0, fp_0_1, fp_0_2, fp_1_0, fp_1_1, fp_1_2, fp_1_3, fp_1_4, fp_1_5, fp_1_6, fp_1_7, fp_1_8, fp_1_9, fp_1_10, fp_1_11, fp_1_12, fp_1_13, fp_1_14, fp_2_0, fp_2_1, fp_2_2, fp_2_3, fp_3_0, fp_3_1, fp_4_0, fp_4_1, fp_4_2, fp_4_3, fp_4_4, fp_4_5, fp_4_6, fp_4_7, fp_5_0, fp_5_1, fp_5_2, fp_5_3, fp_5_4, fp_5_5, fp_5_6, fp_5_7, fp_6_0, fp_6_1, fp_6_2, fp_6_3, fp_6_4, fp_6_5, fp_6_6, fp_6_7, fp_6_8, fp_6_9, fp_6_10, fp_6_11, fp_6_12, fp_6_13, fp_6_14, fp_6_15, fp_7_0, fp_7_1, fp_7_2, fp_7_3, fp_7_4, fp_7_5, fp_7_6, fp_7_7, fp_7_8, fp_7_9, fp_7_10, fp_7_11, fp_7_12, fp_7_13, fp_7_14, fp_7_15, fp_7_16, fp_7_17, fp_7_18, fp_7_19, fp_7_20, fp_7_21, fp_7_22, fp_7_23, fp_7_24, iz_0_1, iz_0_2, iz_1_8, iz_1_9, iz_1_11, iz_2_1, iz_2_2, iz_2_3, iz_3_1, iz_4_1, iz_4_2, iz_5_0, iz_6_8, iz_6_9, iz_6_13, iz_6_14, iz_6_15, iz_7_2, iz_7_6, iz_7_12, iz_7_20, iz_7_21, iz_7_23, iz_7_24, ak_8, ak_9, ak_10, ak_11, ak_12, ak_13, ak_14, ak_15, ak_16, ak_17, ak_18, ak_19, ak_20, ak_21, ak_22, ak_23, ak_24, ak_25, ak_26, ak_27, ak_28, ak_29, ak_30, ak_31, ak_32, ak_33, ak_34, ak_35, ak_36, ak_37, ak_38, ak_39, ak_40, ak_41, ak_42, ak_43, ak_44, ak_45, ak_46, ak_47, ak_48, ak_49, ak_50, ak_51, ak_52, ak_53, ak_54, ak_55, ak_56, el31, el33, el34, CX1_forceOn, ca_X1_forceOn, frX1, kcX1, klX1, T_X1_undecided, T_X1_wayThrough, T_X1_decide, up_ap, false_and, and_false, if_false, if_true, ite_true, ite_false, exists_eq_right_right, exists_eq_right, exists_eq_left, Nat.lt_irrefl, and_self, implies_true, forall_const]
        obtain ⟨⟨p1, p2, p3, p4, p5⟩, hbad, h⟩ := h
        exact FoI_0 p4 (fun m' i j q => by unfold prA at q; omega)
    · exact h.elim
end
