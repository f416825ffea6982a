section
-- ===== PART A: goes FIRST, ahead of the names: the tables' words, and 'selects' of the private methods out of them =====
/-- a private method of a class that the tables say can be made, by its rows of tables_1 -/
def lw_okq (q : MethodName × Nat) : Prop := (q.1.cls ≠ "java/lang/invoke/MethodHandle" ∧ q.1.cls ≠ "java/lang/invoke/VarHandle") ∧ Cond.instantiable q.1.cls q.2 ∈ tables_1 ∧ Cond.privateMethod q.1 ∈ tables_1 ∧ Cond.instanceMethod q.1 ∈ tables_1
theorem lw_p0 : lw_okq (⟨"CleaningRota$History", "dropOldest", "()V"⟩, 2) := ⟨⟨by decide +kernel, by decide +kernel⟩, List.mem_of_getElem? (i := 97) (by decide +kernel), List.mem_of_getElem? (i := 163) (by decide +kernel), List.mem_of_getElem? (i := 164) (by decide +kernel)⟩
theorem lw_p1 : lw_okq (⟨"CleaningRota$History", "stateAt", "(I)LCleaningRota$House;"⟩, 2) := ⟨⟨by decide +kernel, by decide +kernel⟩, List.mem_of_getElem? (i := 97) (by decide +kernel), List.mem_of_getElem? (i := 167) (by decide +kernel), List.mem_of_getElem? (i := 168) (by decide +kernel)⟩
theorem lw_p2 : lw_okq (⟨"CleaningRota$House", "leastLoaded", "(I)I"⟩, 9) := ⟨⟨by decide +kernel, by decide +kernel⟩, List.mem_of_getElem? (i := 18) (by decide +kernel), List.mem_of_getElem? (i := 242) (by decide +kernel), List.mem_of_getElem? (i := 243) (by decide +kernel)⟩
theorem lw_p3 : lw_okq (⟨"CleaningRota$House", "goesAhead", "(II)Z"⟩, 9) := ⟨⟨by decide +kernel, by decide +kernel⟩, List.mem_of_getElem? (i := 18) (by decide +kernel), List.mem_of_getElem? (i := 251) (by decide +kernel), List.mem_of_getElem? (i := 252) (by decide +kernel)⟩
theorem lw_p4 : lw_okq (⟨"CleaningRota$House", "makeTasks", "()V"⟩, 9) := ⟨⟨by decide +kernel, by decide +kernel⟩, List.mem_of_getElem? (i := 18) (by decide +kernel), List.mem_of_getElem? (i := 259) (by decide +kernel), List.mem_of_getElem? (i := 260) (by decide +kernel)⟩
theorem lw_p5 : lw_okq (⟨"CleaningRota$House", "areaOfNextTask", "(I)I"⟩, 9) := ⟨⟨by decide +kernel, by decide +kernel⟩, List.mem_of_getElem? (i := 18) (by decide +kernel), List.mem_of_getElem? (i := 263) (by decide +kernel), List.mem_of_getElem? (i := 264) (by decide +kernel)⟩
theorem lw_p6 : lw_okq (⟨"CleaningRota$House", "effortOfTask", "(I)I"⟩, 9) := ⟨⟨by decide +kernel, by decide +kernel⟩, List.mem_of_getElem? (i := 18) (by decide +kernel), List.mem_of_getElem? (i := 267) (by decide +kernel), List.mem_of_getElem? (i := 268) (by decide +kernel)⟩
theorem lw_p7 : lw_okq (⟨"CleaningRota$House", "addTask", "(IIZ)V"⟩, 9) := ⟨⟨by decide +kernel, by decide +kernel⟩, List.mem_of_getElem? (i := 18) (by decide +kernel), List.mem_of_getElem? (i := 279) (by decide +kernel), List.mem_of_getElem? (i := 280) (by decide +kernel)⟩
theorem lw_p8 : lw_okq (⟨"CleaningRota$House", "giveTasks", "()V"⟩, 9) := ⟨⟨by decide +kernel, by decide +kernel⟩, List.mem_of_getElem? (i := 18) (by decide +kernel), List.mem_of_getElem? (i := 284) (by decide +kernel), List.mem_of_getElem? (i := 285) (by decide +kernel)⟩
theorem lw_p9 : lw_okq (⟨"CleaningRota$House", "hasTwinAhead", "(I)Z"⟩, 9) := ⟨⟨by decide +kernel, by decide +kernel⟩, List.mem_of_getElem? (i := 18) (by decide +kernel), List.mem_of_getElem? (i := 288) (by decide +kernel), List.mem_of_getElem? (i := 289) (by decide +kernel)⟩
theorem lw_p10 : lw_okq (⟨"CleaningRota$House", "isTwinOpen", "(I)Z"⟩, 9) := ⟨⟨by decide +kernel, by decide +kernel⟩, List.mem_of_getElem? (i := 18) (by decide +kernel), List.mem_of_getElem? (i := 309) (by decide +kernel), List.mem_of_getElem? (i := 310) (by decide +kernel)⟩
theorem lw_p11 : lw_okq (⟨"CleaningRota$House", "clean", "(I)V"⟩, 9) := ⟨⟨by decide +kernel, by decide +kernel⟩, List.mem_of_getElem? (i := 18) (by decide +kernel), List.mem_of_getElem? (i := 314) (by decide +kernel), List.mem_of_getElem? (i := 315) (by decide +kernel)⟩
theorem lw_p12 : lw_okq (⟨"CleaningRota$House", "dropSwapsWith", "(I)V"⟩, 9) := ⟨⟨by decide +kernel, by decide +kernel⟩, List.mem_of_getElem? (i := 18) (by decide +kernel), List.mem_of_getElem? (i := 318) (by decide +kernel), List.mem_of_getElem? (i := 319) (by decide +kernel)⟩
theorem lw_p13 : lw_okq (⟨"CleaningRota$House", "skip", "(I)V"⟩, 9) := ⟨⟨by decide +kernel, by decide +kernel⟩, List.mem_of_getElem? (i := 18) (by decide +kernel), List.mem_of_getElem? (i := 349) (by decide +kernel), List.mem_of_getElem? (i := 350) (by decide +kernel)⟩
theorem lw_p14 : lw_okq (⟨"CleaningRota$House", "decayPoints", "()V"⟩, 9) := ⟨⟨by decide +kernel, by decide +kernel⟩, List.mem_of_getElem? (i := 18) (by decide +kernel), List.mem_of_getElem? (i := 357) (by decide +kernel), List.mem_of_getElem? (i := 358) (by decide +kernel)⟩
theorem lw_p15 : lw_okq (⟨"CleaningRota$House", "growDirt", "()V"⟩, 9) := ⟨⟨by decide +kernel, by decide +kernel⟩, List.mem_of_getElem? (i := 18) (by decide +kernel), List.mem_of_getElem? (i := 361) (by decide +kernel), List.mem_of_getElem? (i := 362) (by decide +kernel)⟩
def lw_privs_1 : List (MethodName × Nat) := [(⟨"CleaningRota$History", "dropOldest", "()V"⟩, 2), (⟨"CleaningRota$History", "stateAt", "(I)LCleaningRota$House;"⟩, 2), (⟨"CleaningRota$House", "leastLoaded", "(I)I"⟩, 9), (⟨"CleaningRota$House", "goesAhead", "(II)Z"⟩, 9), (⟨"CleaningRota$House", "makeTasks", "()V"⟩, 9), (⟨"CleaningRota$House", "areaOfNextTask", "(I)I"⟩, 9), (⟨"CleaningRota$House", "effortOfTask", "(I)I"⟩, 9), (⟨"CleaningRota$House", "addTask", "(IIZ)V"⟩, 9), (⟨"CleaningRota$House", "giveTasks", "()V"⟩, 9), (⟨"CleaningRota$House", "hasTwinAhead", "(I)Z"⟩, 9), (⟨"CleaningRota$House", "isTwinOpen", "(I)Z"⟩, 9), (⟨"CleaningRota$House", "clean", "(I)V"⟩, 9), (⟨"CleaningRota$House", "dropSwapsWith", "(I)V"⟩, 9), (⟨"CleaningRota$House", "skip", "(I)V"⟩, 9), (⟨"CleaningRota$House", "decayPoints", "()V"⟩, 9), (⟨"CleaningRota$House", "growDirt", "()V"⟩, 9)]
theorem lw_r1 : ∀ q ∈ lw_privs_1, lw_okq q := List.forall_mem_cons.mpr ⟨lw_p0, List.forall_mem_cons.mpr ⟨lw_p1, List.forall_mem_cons.mpr ⟨lw_p2, List.forall_mem_cons.mpr ⟨lw_p3, List.forall_mem_cons.mpr ⟨lw_p4, List.forall_mem_cons.mpr ⟨lw_p5, List.forall_mem_cons.mpr ⟨lw_p6, List.forall_mem_cons.mpr ⟨lw_p7, List.forall_mem_cons.mpr ⟨lw_p8, List.forall_mem_cons.mpr ⟨lw_p9, List.forall_mem_cons.mpr ⟨lw_p10, List.forall_mem_cons.mpr ⟨lw_p11, List.forall_mem_cons.mpr ⟨lw_p12, List.forall_mem_cons.mpr ⟨lw_p13, List.forall_mem_cons.mpr ⟨lw_p14, List.forall_mem_cons.mpr ⟨lw_p15, fun _ h => absurd h List.not_mem_nil⟩⟩⟩⟩⟩⟩⟩⟩⟩⟩⟩⟩⟩⟩⟩⟩
theorem lw_p16 : lw_okq (⟨"CleaningRota$House", "gainOfExchange", "(II)I"⟩, 9) := ⟨⟨by decide +kernel, by decide +kernel⟩, List.mem_of_getElem? (i := 18) (by decide +kernel), List.mem_of_getElem? (i := 389) (by decide +kernel), List.mem_of_getElem? (i := 390) (by decide +kernel)⟩
theorem lw_p17 : lw_okq (⟨"CleaningRota$House", "spreadOf", "(ZIII)I"⟩, 9) := ⟨⟨by decide +kernel, by decide +kernel⟩, List.mem_of_getElem? (i := 18) (by decide +kernel), List.mem_of_getElem? (i := 442) (by decide +kernel), List.mem_of_getElem? (i := 443) (by decide +kernel)⟩
theorem lw_p18 : lw_okq (⟨"CleaningRota$Pad", "endOfNumber", "(I)I"⟩, 3) := ⟨⟨by decide +kernel, by decide +kernel⟩, List.mem_of_getElem? (i := 114) (by decide +kernel), List.mem_of_getElem? (i := 509) (by decide +kernel), List.mem_of_getElem? (i := 510) (by decide +kernel)⟩
theorem lw_p19 : lw_okq (⟨"CleaningRota$Pad", "isDigitAt", "(I)Z"⟩, 3) := ⟨⟨by decide +kernel, by decide +kernel⟩, List.mem_of_getElem? (i := 114) (by decide +kernel), List.mem_of_getElem? (i := 513) (by decide +kernel), List.mem_of_getElem? (i := 514) (by decide +kernel)⟩
theorem lw_p20 : lw_okq (⟨"CleaningRota$Pad", "characterAt", "(I)I"⟩, 3) := ⟨⟨by decide +kernel, by decide +kernel⟩, List.mem_of_getElem? (i := 114) (by decide +kernel), List.mem_of_getElem? (i := 517) (by decide +kernel), List.mem_of_getElem? (i := 518) (by decide +kernel)⟩
theorem lw_p21 : lw_okq (⟨"CleaningRota$Pad", "numberIn", "(II)I"⟩, 3) := ⟨⟨by decide +kernel, by decide +kernel⟩, List.mem_of_getElem? (i := 114) (by decide +kernel), List.mem_of_getElem? (i := 521) (by decide +kernel), List.mem_of_getElem? (i := 522) (by decide +kernel)⟩
theorem lw_p22 : lw_okq (⟨"CleaningRota$Pad", "addPart", "(II)V"⟩, 3) := ⟨⟨by decide +kernel, by decide +kernel⟩, List.mem_of_getElem? (i := 114) (by decide +kernel), List.mem_of_getElem? (i := 525) (by decide +kernel), List.mem_of_getElem? (i := 526) (by decide +kernel)⟩
theorem lw_p23 : lw_okq (⟨"CleaningRotaModel", "keep", "()V"⟩, 11) := ⟨⟨by decide +kernel, by decide +kernel⟩, List.mem_of_getElem? (i := 544) (by decide +kernel), List.mem_of_getElem? (i := 591) (by decide +kernel), List.mem_of_getElem? (i := 592) (by decide +kernel)⟩
theorem lw_p24 : lw_okq (⟨"CleaningRotaModel", "lay", "(III)V"⟩, 11) := ⟨⟨by decide +kernel, by decide +kernel⟩, List.mem_of_getElem? (i := 544) (by decide +kernel), List.mem_of_getElem? (i := 595) (by decide +kernel), List.mem_of_getElem? (i := 596) (by decide +kernel)⟩
theorem lw_p25 : lw_okq (⟨"CleaningRotaModel", "isResident", "(I)Z"⟩, 11) := ⟨⟨by decide +kernel, by decide +kernel⟩, List.mem_of_getElem? (i := 544) (by decide +kernel), List.mem_of_getElem? (i := 603) (by decide +kernel), List.mem_of_getElem? (i := 604) (by decide +kernel)⟩
theorem lw_p26 : lw_okq (⟨"CleaningRotaModel", "of", "(II)I"⟩, 11) := ⟨⟨by decide +kernel, by decide +kernel⟩, List.mem_of_getElem? (i := 544) (by decide +kernel), List.mem_of_getElem? (i := 607) (by decide +kernel), List.mem_of_getElem? (i := 608) (by decide +kernel)⟩
theorem lw_p27 : lw_okq (⟨"CleaningRotaModel", "isAway", "(I)Z"⟩, 11) := ⟨⟨by decide +kernel, by decide +kernel⟩, List.mem_of_getElem? (i := 544) (by decide +kernel), List.mem_of_getElem? (i := 615) (by decide +kernel), List.mem_of_getElem? (i := 616) (by decide +kernel)⟩
theorem lw_p28 : lw_okq (⟨"CleaningRotaModel", "layArea", "(III)V"⟩, 11) := ⟨⟨by decide +kernel, by decide +kernel⟩, List.mem_of_getElem? (i := 544) (by decide +kernel), List.mem_of_getElem? (i := 623) (by decide +kernel), List.mem_of_getElem? (i := 624) (by decide +kernel)⟩
theorem lw_p29 : lw_okq (⟨"CleaningRotaModel", "setting", "(I)I"⟩, 11) := ⟨⟨by decide +kernel, by decide +kernel⟩, List.mem_of_getElem? (i := 544) (by decide +kernel), List.mem_of_getElem? (i := 634) (by decide +kernel), List.mem_of_getElem? (i := 635) (by decide +kernel)⟩
theorem lw_p30 : lw_okq (⟨"CleaningRotaModel", "makePlan", "()I"⟩, 11) := ⟨⟨by decide +kernel, by decide +kernel⟩, List.mem_of_getElem? (i := 544) (by decide +kernel), List.mem_of_getElem? (i := 642) (by decide +kernel), List.mem_of_getElem? (i := 643) (by decide +kernel)⟩
theorem lw_p31 : lw_okq (⟨"CleaningRotaModel", "bestFor", "(I)I"⟩, 11) := ⟨⟨by decide +kernel, by decide +kernel⟩, List.mem_of_getElem? (i := 544) (by decide +kernel), List.mem_of_getElem? (i := 646) (by decide +kernel), List.mem_of_getElem? (i := 647) (by decide +kernel)⟩
def lw_privs_2 : List (MethodName × Nat) := [(⟨"CleaningRota$House", "gainOfExchange", "(II)I"⟩, 9), (⟨"CleaningRota$House", "spreadOf", "(ZIII)I"⟩, 9), (⟨"CleaningRota$Pad", "endOfNumber", "(I)I"⟩, 3), (⟨"CleaningRota$Pad", "isDigitAt", "(I)Z"⟩, 3), (⟨"CleaningRota$Pad", "characterAt", "(I)I"⟩, 3), (⟨"CleaningRota$Pad", "numberIn", "(II)I"⟩, 3), (⟨"CleaningRota$Pad", "addPart", "(II)V"⟩, 3), (⟨"CleaningRotaModel", "keep", "()V"⟩, 11), (⟨"CleaningRotaModel", "lay", "(III)V"⟩, 11), (⟨"CleaningRotaModel", "isResident", "(I)Z"⟩, 11), (⟨"CleaningRotaModel", "of", "(II)I"⟩, 11), (⟨"CleaningRotaModel", "isAway", "(I)Z"⟩, 11), (⟨"CleaningRotaModel", "layArea", "(III)V"⟩, 11), (⟨"CleaningRotaModel", "setting", "(I)I"⟩, 11), (⟨"CleaningRotaModel", "makePlan", "()I"⟩, 11), (⟨"CleaningRotaModel", "bestFor", "(I)I"⟩, 11)]
theorem lw_r2 : ∀ q ∈ lw_privs_2, lw_okq q := List.forall_mem_cons.mpr ⟨lw_p16, List.forall_mem_cons.mpr ⟨lw_p17, List.forall_mem_cons.mpr ⟨lw_p18, List.forall_mem_cons.mpr ⟨lw_p19, List.forall_mem_cons.mpr ⟨lw_p20, List.forall_mem_cons.mpr ⟨lw_p21, List.forall_mem_cons.mpr ⟨lw_p22, List.forall_mem_cons.mpr ⟨lw_p23, List.forall_mem_cons.mpr ⟨lw_p24, List.forall_mem_cons.mpr ⟨lw_p25, List.forall_mem_cons.mpr ⟨lw_p26, List.forall_mem_cons.mpr ⟨lw_p27, List.forall_mem_cons.mpr ⟨lw_p28, List.forall_mem_cons.mpr ⟨lw_p29, List.forall_mem_cons.mpr ⟨lw_p30, List.forall_mem_cons.mpr ⟨lw_p31, fun _ h => absurd h List.not_mem_nil⟩⟩⟩⟩⟩⟩⟩⟩⟩⟩⟩⟩⟩⟩⟩⟩
theorem lw_p32 : lw_okq (⟨"CleaningRotaModel", "isAhead", "(II)Z"⟩, 11) := ⟨⟨by decide +kernel, by decide +kernel⟩, List.mem_of_getElem? (i := 544) (by decide +kernel), List.mem_of_getElem? (i := 650) (by decide +kernel), List.mem_of_getElem? (i := 651) (by decide +kernel)⟩
theorem lw_p33 : lw_okq (⟨"CleaningRotaModel", "loadOf", "(I)I"⟩, 11) := ⟨⟨by decide +kernel, by decide +kernel⟩, List.mem_of_getElem? (i := 544) (by decide +kernel), List.mem_of_getElem? (i := 654) (by decide +kernel), List.mem_of_getElem? (i := 655) (by decide +kernel)⟩
theorem lw_p34 : lw_okq (⟨"CleaningRotaModel", "ofTask", "(II)I"⟩, 11) := ⟨⟨by decide +kernel, by decide +kernel⟩, List.mem_of_getElem? (i := 544) (by decide +kernel), List.mem_of_getElem? (i := 658) (by decide +kernel), List.mem_of_getElem? (i := 659) (by decide +kernel)⟩
theorem lw_p35 : lw_okq (⟨"CleaningRotaModel", "needsDeep", "(I)Z"⟩, 11) := ⟨⟨by decide +kernel, by decide +kernel⟩, List.mem_of_getElem? (i := 544) (by decide +kernel), List.mem_of_getElem? (i := 662) (by decide +kernel), List.mem_of_getElem? (i := 663) (by decide +kernel)⟩
theorem lw_p36 : lw_okq (⟨"CleaningRotaModel", "ofArea", "(II)I"⟩, 11) := ⟨⟨by decide +kernel, by decide +kernel⟩, List.mem_of_getElem? (i := 544) (by decide +kernel), List.mem_of_getElem? (i := 666) (by decide +kernel), List.mem_of_getElem? (i := 667) (by decide +kernel)⟩
theorem lw_p37 : lw_okq (⟨"CleaningRotaModel", "addTask", "(III)V"⟩, 11) := ⟨⟨by decide +kernel, by decide +kernel⟩, List.mem_of_getElem? (i := 544) (by decide +kernel), List.mem_of_getElem? (i := 670) (by decide +kernel), List.mem_of_getElem? (i := 671) (by decide +kernel)⟩
theorem lw_p38 : lw_okq (⟨"CleaningRotaModel", "layTask", "(III)V"⟩, 11) := ⟨⟨by decide +kernel, by decide +kernel⟩, List.mem_of_getElem? (i := 544) (by decide +kernel), List.mem_of_getElem? (i := 674) (by decide +kernel), List.mem_of_getElem? (i := 675) (by decide +kernel)⟩
theorem lw_p39 : lw_okq (⟨"CleaningRotaModel", "isDue", "(I)Z"⟩, 11) := ⟨⟨by decide +kernel, by decide +kernel⟩, List.mem_of_getElem? (i := 544) (by decide +kernel), List.mem_of_getElem? (i := 678) (by decide +kernel), List.mem_of_getElem? (i := 679) (by decide +kernel)⟩
theorem lw_p40 : lw_okq (⟨"CleaningRotaModel", "partnerOf", "(I)I"⟩, 11) := ⟨⟨by decide +kernel, by decide +kernel⟩, List.mem_of_getElem? (i := 544) (by decide +kernel), List.mem_of_getElem? (i := 682) (by decide +kernel), List.mem_of_getElem? (i := 683) (by decide +kernel)⟩
theorem lw_p41 : lw_okq (⟨"CleaningRotaModel", "isTask", "(I)Z"⟩, 11) := ⟨⟨by decide +kernel, by decide +kernel⟩, List.mem_of_getElem? (i := 544) (by decide +kernel), List.mem_of_getElem? (i := 690) (by decide +kernel), List.mem_of_getElem? (i := 691) (by decide +kernel)⟩
theorem lw_p42 : lw_okq (⟨"CleaningRotaModel", "finish", "(I)I"⟩, 11) := ⟨⟨by decide +kernel, by decide +kernel⟩, List.mem_of_getElem? (i := 544) (by decide +kernel), List.mem_of_getElem? (i := 694) (by decide +kernel), List.mem_of_getElem? (i := 695) (by decide +kernel)⟩
theorem lw_p43 : lw_okq (⟨"CleaningRotaModel", "isLastOf", "(I)Z"⟩, 11) := ⟨⟨by decide +kernel, by decide +kernel⟩, List.mem_of_getElem? (i := 544) (by decide +kernel), List.mem_of_getElem? (i := 698) (by decide +kernel), List.mem_of_getElem? (i := 699) (by decide +kernel)⟩
theorem lw_p44 : lw_okq (⟨"CleaningRotaModel", "clean", "(I)V"⟩, 11) := ⟨⟨by decide +kernel, by decide +kernel⟩, List.mem_of_getElem? (i := 544) (by decide +kernel), List.mem_of_getElem? (i := 702) (by decide +kernel), List.mem_of_getElem? (i := 703) (by decide +kernel)⟩
theorem lw_p45 : lw_okq (⟨"CleaningRotaModel", "dropSwaps", "(I)V"⟩, 11) := ⟨⟨by decide +kernel, by decide +kernel⟩, List.mem_of_getElem? (i := 544) (by decide +kernel), List.mem_of_getElem? (i := 706) (by decide +kernel), List.mem_of_getElem? (i := 707) (by decide +kernel)⟩
theorem lw_p46 : lw_okq (⟨"CleaningRotaModel", "ofSwap", "(II)I"⟩, 11) := ⟨⟨by decide +kernel, by decide +kernel⟩, List.mem_of_getElem? (i := 544) (by decide +kernel), List.mem_of_getElem? (i := 710) (by decide +kernel), List.mem_of_getElem? (i := 711) (by decide +kernel)⟩
theorem lw_p47 : lw_okq (⟨"CleaningRotaModel", "removeSwap", "(I)V"⟩, 11) := ⟨⟨by decide +kernel, by decide +kernel⟩, List.mem_of_getElem? (i := 544) (by decide +kernel), List.mem_of_getElem? (i := 714) (by decide +kernel), List.mem_of_getElem? (i := 715) (by decide +kernel)⟩
def lw_privs_3 : List (MethodName × Nat) := [(⟨"CleaningRotaModel", "isAhead", "(II)Z"⟩, 11), (⟨"CleaningRotaModel", "loadOf", "(I)I"⟩, 11), (⟨"CleaningRotaModel", "ofTask", "(II)I"⟩, 11), (⟨"CleaningRotaModel", "needsDeep", "(I)Z"⟩, 11), (⟨"CleaningRotaModel", "ofArea", "(II)I"⟩, 11), (⟨"CleaningRotaModel", "addTask", "(III)V"⟩, 11), (⟨"CleaningRotaModel", "layTask", "(III)V"⟩, 11), (⟨"CleaningRotaModel", "isDue", "(I)Z"⟩, 11), (⟨"CleaningRotaModel", "partnerOf", "(I)I"⟩, 11), (⟨"CleaningRotaModel", "isTask", "(I)Z"⟩, 11), (⟨"CleaningRotaModel", "finish", "(I)I"⟩, 11), (⟨"CleaningRotaModel", "isLastOf", "(I)Z"⟩, 11), (⟨"CleaningRotaModel", "clean", "(I)V"⟩, 11), (⟨"CleaningRotaModel", "dropSwaps", "(I)V"⟩, 11), (⟨"CleaningRotaModel", "ofSwap", "(II)I"⟩, 11), (⟨"CleaningRotaModel", "removeSwap", "(I)V"⟩, 11)]
theorem lw_r3 : ∀ q ∈ lw_privs_3, lw_okq q := List.forall_mem_cons.mpr ⟨lw_p32, List.forall_mem_cons.mpr ⟨lw_p33, List.forall_mem_cons.mpr ⟨lw_p34, List.forall_mem_cons.mpr ⟨lw_p35, List.forall_mem_cons.mpr ⟨lw_p36, List.forall_mem_cons.mpr ⟨lw_p37, List.forall_mem_cons.mpr ⟨lw_p38, List.forall_mem_cons.mpr ⟨lw_p39, List.forall_mem_cons.mpr ⟨lw_p40, List.forall_mem_cons.mpr ⟨lw_p41, List.forall_mem_cons.mpr ⟨lw_p42, List.forall_mem_cons.mpr ⟨lw_p43, List.forall_mem_cons.mpr ⟨lw_p44, List.forall_mem_cons.mpr ⟨lw_p45, List.forall_mem_cons.mpr ⟨lw_p46, List.forall_mem_cons.mpr ⟨lw_p47, fun _ h => absurd h List.not_mem_nil⟩⟩⟩⟩⟩⟩⟩⟩⟩⟩⟩⟩⟩⟩⟩⟩
theorem lw_p48 : lw_okq (⟨"CleaningRotaModel", "isArea", "(I)Z"⟩, 11) := ⟨⟨by decide +kernel, by decide +kernel⟩, List.mem_of_getElem? (i := 544) (by decide +kernel), List.mem_of_getElem? (i := 722) (by decide +kernel), List.mem_of_getElem? (i := 723) (by decide +kernel)⟩
theorem lw_p49 : lw_okq (⟨"CleaningRotaModel", "makeEnd", "()I"⟩, 11) := ⟨⟨by decide +kernel, by decide +kernel⟩, List.mem_of_getElem? (i := 544) (by decide +kernel), List.mem_of_getElem? (i := 730) (by decide +kernel), List.mem_of_getElem? (i := 731) (by decide +kernel)⟩
theorem lw_p50 : lw_okq (⟨"CleaningRotaModel", "isProposed", "(II)Z"⟩, 11) := ⟨⟨by decide +kernel, by decide +kernel⟩, List.mem_of_getElem? (i := 544) (by decide +kernel), List.mem_of_getElem? (i := 738) (by decide +kernel), List.mem_of_getElem? (i := 739) (by decide +kernel)⟩
theorem lw_p51 : lw_okq (⟨"CleaningRotaModel", "exchange", "(II)V"⟩, 11) := ⟨⟨by decide +kernel, by decide +kernel⟩, List.mem_of_getElem? (i := 544) (by decide +kernel), List.mem_of_getElem? (i := 746) (by decide +kernel), List.mem_of_getElem? (i := 747) (by decide +kernel)⟩
theorem lw_p52 : lw_okq (⟨"CleaningRotaModel", "openOf", "(IZ)I"⟩, 11) := ⟨⟨by decide +kernel, by decide +kernel⟩, List.mem_of_getElem? (i := 544) (by decide +kernel), List.mem_of_getElem? (i := 754) (by decide +kernel), List.mem_of_getElem? (i := 755) (by decide +kernel)⟩
theorem lw_p53 : lw_okq (⟨"CleaningRotaModel", "openTasks", "()I"⟩, 11) := ⟨⟨by decide +kernel, by decide +kernel⟩, List.mem_of_getElem? (i := 544) (by decide +kernel), List.mem_of_getElem? (i := 774) (by decide +kernel), List.mem_of_getElem? (i := 775) (by decide +kernel)⟩
theorem lw_p54 : lw_okq (⟨"CleaningRotaModel", "spread", "(Z)I"⟩, 11) := ⟨⟨by decide +kernel, by decide +kernel⟩, List.mem_of_getElem? (i := 544) (by decide +kernel), List.mem_of_getElem? (i := 778) (by decide +kernel), List.mem_of_getElem? (i := 779) (by decide +kernel)⟩
theorem lw_p55 : lw_okq (⟨"CleaningRotaModel", "putAside", "()V"⟩, 11) := ⟨⟨by decide +kernel, by decide +kernel⟩, List.mem_of_getElem? (i := 544) (by decide +kernel), List.mem_of_getElem? (i := 786) (by decide +kernel), List.mem_of_getElem? (i := 787) (by decide +kernel)⟩
theorem lw_p56 : lw_okq (⟨"CleaningRotaModel", "foulest", "()I"⟩, 11) := ⟨⟨by decide +kernel, by decide +kernel⟩, List.mem_of_getElem? (i := 544) (by decide +kernel), List.mem_of_getElem? (i := 790) (by decide +kernel), List.mem_of_getElem? (i := 791) (by decide +kernel)⟩
theorem lw_p57 : lw_okq (⟨"CleaningRotaModel", "putBack", "()V"⟩, 11) := ⟨⟨by decide +kernel, by decide +kernel⟩, List.mem_of_getElem? (i := 544) (by decide +kernel), List.mem_of_getElem? (i := 794) (by decide +kernel), List.mem_of_getElem? (i := 795) (by decide +kernel)⟩
theorem lw_p58 : lw_okq (⟨"CleaningRotaModel", "takePart", "()V"⟩, 11) := ⟨⟨by decide +kernel, by decide +kernel⟩, List.mem_of_getElem? (i := 544) (by decide +kernel), List.mem_of_getElem? (i := 815) (by decide +kernel), List.mem_of_getElem? (i := 816) (by decide +kernel)⟩
theorem lw_p59 : lw_okq (⟨"CleaningRotaModel", "takeNumber", "()I"⟩, 11) := ⟨⟨by decide +kernel, by decide +kernel⟩, List.mem_of_getElem? (i := 544) (by decide +kernel), List.mem_of_getElem? (i := 819) (by decide +kernel), List.mem_of_getElem? (i := 820) (by decide +kernel)⟩
theorem lw_p60 : lw_okq (⟨"CleaningRotaModel", "next", "()I"⟩, 11) := ⟨⟨by decide +kernel, by decide +kernel⟩, List.mem_of_getElem? (i := 544) (by decide +kernel), List.mem_of_getElem? (i := 823) (by decide +kernel), List.mem_of_getElem? (i := 824) (by decide +kernel)⟩
def lw_privs_4 : List (MethodName × Nat) := [(⟨"CleaningRotaModel", "isArea", "(I)Z"⟩, 11), (⟨"CleaningRotaModel", "makeEnd", "()I"⟩, 11), (⟨"CleaningRotaModel", "isProposed", "(II)Z"⟩, 11), (⟨"CleaningRotaModel", "exchange", "(II)V"⟩, 11), (⟨"CleaningRotaModel", "openOf", "(IZ)I"⟩, 11), (⟨"CleaningRotaModel", "openTasks", "()I"⟩, 11), (⟨"CleaningRotaModel", "spread", "(Z)I"⟩, 11), (⟨"CleaningRotaModel", "putAside", "()V"⟩, 11), (⟨"CleaningRotaModel", "foulest", "()I"⟩, 11), (⟨"CleaningRotaModel", "putBack", "()V"⟩, 11), (⟨"CleaningRotaModel", "takePart", "()V"⟩, 11), (⟨"CleaningRotaModel", "takeNumber", "()I"⟩, 11), (⟨"CleaningRotaModel", "next", "()I"⟩, 11)]
theorem lw_r4 : ∀ q ∈ lw_privs_4, lw_okq q := List.forall_mem_cons.mpr ⟨lw_p48, List.forall_mem_cons.mpr ⟨lw_p49, List.forall_mem_cons.mpr ⟨lw_p50, List.forall_mem_cons.mpr ⟨lw_p51, List.forall_mem_cons.mpr ⟨lw_p52, List.forall_mem_cons.mpr ⟨lw_p53, List.forall_mem_cons.mpr ⟨lw_p54, List.forall_mem_cons.mpr ⟨lw_p55, List.forall_mem_cons.mpr ⟨lw_p56, List.forall_mem_cons.mpr ⟨lw_p57, List.forall_mem_cons.mpr ⟨lw_p58, List.forall_mem_cons.mpr ⟨lw_p59, List.forall_mem_cons.mpr ⟨lw_p60, fun _ h => absurd h List.not_mem_nil⟩⟩⟩⟩⟩⟩⟩⟩⟩⟩⟩⟩⟩
def lw_privs : List (MethodName × Nat) := lw_privs_1 ++ (lw_privs_2 ++ (lw_privs_3 ++ (lw_privs_4)))
def lw_tbl : List Cond := k2_sels lw_privs ++ tables_1
theorem lw_privs_ok : ∀ q ∈ lw_privs, lw_okq q := by
  show ∀ q ∈ lw_privs_1 ++ (lw_privs_2 ++ (lw_privs_3 ++ (lw_privs_4))), lw_okq q
  exact List.forall_mem_append.mpr ⟨lw_r1, List.forall_mem_append.mpr ⟨lw_r2, List.forall_mem_append.mpr ⟨lw_r3, lw_r4⟩⟩⟩
-- ===== end of PART A; then your names; then what follows =====
/-! ===== BEGIN words of one list among another's, by their places ===== -/
theorem goodIn_r {big : List Cond} (ws : List Cond) (ps : List Nat) (hp : ws = ps.filterMap (fun i => big[i]?)) (h : ws.all goodWord = true) : GoodIn big ws := by
  intro w hw
  have h1 := List.all_eq_true.mp h w hw
  rw [hp] at hw
  obtain ⟨i, -, hi⟩ := List.mem_filterMap.mp hw
  have hm : w ∈ big := by first | exact List.mem_of_getElem? hi | exact List.getElem?_mem hi
  exact ⟨hm, good_of_word h1⟩
theorem goodIn_app {big a b : List Cond} (ha : GoodIn big a) (hb : GoodIn big b) : GoodIn big (a ++ b) := fun w h => (List.mem_append.mp h).elim (ha w) (hb w)
theorem goodIn_ca {big a b : List Cond} {c : Cond} (ha : GoodIn big (c :: a)) (hb : GoodIn big b) : GoodIn big (c :: (a ++ b)) := fun w h => (List.mem_cons.mp h).elim (fun e => ha w (List.mem_cons.mpr (Or.inl e))) (fun h => (List.mem_append.mp h).elim (fun h => ha w (List.mem_cons.mpr (Or.inr h))) (hb w))
theorem goodIn_sub {big ws : List Cond} (hm : ∀ w ∈ ws, w ∈ big) (h : ws.all goodWord = true) : GoodIn big ws := fun w hw => ⟨hm w hw, good_of_word (List.all_eq_true.mp h w hw)⟩
/-! ===== END ===== -/

/-! ===== BEGIN printed: names, fields, word lists, decode rows ===== -/
def RX0 : String := "CleaningRota$History"
def TX0 : u_T := fun k => match k with
  | 0 => ("CleaningRota$History", "states", "[LCleaningRota$House;", true)
  | _ => ("CleaningRota$History", "kept", "I", false)
def tyX0 : Nat → FieldType := fun k => match k with
  | 0 => .array (.object "CleaningRota$House")
  | _ => .int
abbrev wsX00 : List Cond := u_ws RX0 TX0 2
theorem nmX0 : ∀ a, a < 2 → ∀ b, b < 2 → a ≠ b → (TX0 a).2.1 ≠ (TX0 b).2.1 := by decide +kernel
theorem tyX0_ok : ∀ k, k < 2 → parseFieldDescriptor (TX0 k).2.2.1 = some (tyX0 k) := by decide +kernel
abbrev cX0_init : ByteArray := prog_2_method_1_code
def yX0_init : MethodName := ⟨RX0, "<init>", "()V"⟩
abbrev cX0_keep : ByteArray := prog_2_method_2_code
def yX0_keep : MethodName := ⟨RX0, "keep", "(LCleaningRota$House;)V"⟩
abbrev cX0_restore : ByteArray := prog_2_method_3_code
def yX0_restore : MethodName := ⟨RX0, "restore", "(LCleaningRota$House;)V"⟩
abbrev cX0_stateAt : ByteArray := prog_2_method_4_code
def yX0_stateAt : MethodName := ⟨RX0, "stateAt", "(I)LCleaningRota$House;"⟩
abbrev cX0_dropOldest : ByteArray := prog_2_method_5_code
def yX0_dropOldest : MethodName := ⟨RX0, "dropOldest", "()V"⟩
def RX1 : String := "CleaningRota$House"
def TX1 : u_T := fun k => match k with
  | 0 => ("CleaningRota$House", "residents", "LCleaningRota$Table;", true)
  | 1 => ("CleaningRota$House", "areas", "LCleaningRota$Table;", true)
  | 2 => ("CleaningRota$House", "tasks", "LCleaningRota$Table;", true)
  | 3 => ("CleaningRota$House", "swaps", "LCleaningRota$Table;", true)
  | 4 => ("CleaningRota$House", "settings", "LCleaningRota$Table;", true)
  | 5 => ("CleaningRota$House", "week", "I", false)
  | 6 => ("CleaningRota$House", "isPlanned", "Z", false)
  | 7 => ("CleaningRota$House", "tasksDone", "I", false)
  | _ => ("CleaningRota$House", "tasksSkipped", "I", false)
def tyX1 : Nat → FieldType := fun k => match k with
  | 0 => .object "CleaningRota$Table"
  | 1 => .object "CleaningRota$Table"
  | 2 => .object "CleaningRota$Table"
  | 3 => .object "CleaningRota$Table"
  | 4 => .object "CleaningRota$Table"
  | 5 => .int
  | 6 => .boolean
  | 7 => .int
  | _ => .int
abbrev wsX10 : List Cond := u_ws RX1 TX1 9
theorem nmX1 : ∀ a, a < 9 → ∀ b, b < 9 → a ≠ b → (TX1 a).2.1 ≠ (TX1 b).2.1 := by decide +kernel
theorem tyX1_ok : ∀ k, k < 9 → parseFieldDescriptor (TX1 k).2.2.1 = some (tyX1 k) := by decide +kernel
abbrev cX1_init : ByteArray := prog_3_method_1_code
def yX1_init : MethodName := ⟨RX1, "<init>", "()V"⟩
abbrev cX1_copyFrom : ByteArray := prog_3_method_2_code
def yX1_copyFrom : MethodName := ⟨RX1, "copyFrom", "(LCleaningRota$House;)V"⟩
abbrev cX1_addResident : ByteArray := prog_3_method_3_code
def yX1_addResident : MethodName := ⟨RX1, "addResident", "(I)I"⟩
abbrev cX1_isAway : ByteArray := prog_3_method_4_code
def yX1_isAway : MethodName := ⟨RX1, "isAway", "(I)Z"⟩
abbrev cX1_loadOf : ByteArray := prog_3_method_5_code
def yX1_loadOf : MethodName := ⟨RX1, "loadOf", "(I)I"⟩
abbrev cX1_addArea : ByteArray := prog_3_method_6_code
def yX1_addArea : MethodName := ⟨RX1, "addArea", "(III)I"⟩
abbrev cX1_needsDeepClean : ByteArray := prog_3_method_7_code
def yX1_needsDeepClean : MethodName := ⟨RX1, "needsDeepClean", "(I)Z"⟩
abbrev cX1_isDue : ByteArray := prog_3_method_8_code
def yX1_isDue : MethodName := ⟨RX1, "isDue", "(I)Z"⟩
abbrev cX1_greatestDirt : ByteArray := prog_3_method_9_code
def yX1_greatestDirt : MethodName := ⟨RX1, "greatestDirt", "()I"⟩
abbrev cX1_clean : ByteArray := prog_3_method_10_code
def yX1_clean : MethodName := ⟨RX1, "clean", "(I)V"⟩
abbrev cX1_planWeek : ByteArray := prog_3_method_11_code
def yX1_planWeek : MethodName := ⟨RX1, "planWeek", "()I"⟩
abbrev cX1_makeTasks : ByteArray := prog_3_method_12_code
def yX1_makeTasks : MethodName := ⟨RX1, "makeTasks", "()V"⟩
abbrev cX1_areaOfNextTask : ByteArray := prog_3_method_13_code
def yX1_areaOfNextTask : MethodName := ⟨RX1, "areaOfNextTask", "(I)I"⟩
abbrev cX1_effortOfTask : ByteArray := prog_3_method_14_code
def yX1_effortOfTask : MethodName := ⟨RX1, "effortOfTask", "(I)I"⟩
abbrev cX1_addTask : ByteArray := prog_3_method_15_code
def yX1_addTask : MethodName := ⟨RX1, "addTask", "(IIZ)V"⟩
abbrev cX1_giveTasks : ByteArray := prog_3_method_16_code
def yX1_giveTasks : MethodName := ⟨RX1, "giveTasks", "()V"⟩
abbrev cX1_hasTwinAhead : ByteArray := prog_3_method_17_code
def yX1_hasTwinAhead : MethodName := ⟨RX1, "hasTwinAhead", "(I)Z"⟩
abbrev cX1_leastLoaded : ByteArray := prog_3_method_18_code
def yX1_leastLoaded : MethodName := ⟨RX1, "leastLoaded", "(I)I"⟩
abbrev cX1_goesAhead : ByteArray := prog_3_method_19_code
def yX1_goesAhead : MethodName := ⟨RX1, "goesAhead", "(II)Z"⟩
abbrev cX1_isOpen : ByteArray := prog_3_method_20_code
def yX1_isOpen : MethodName := ⟨RX1, "isOpen", "(I)Z"⟩
abbrev cX1_isOpenTaskOf : ByteArray := prog_3_method_21_code
def yX1_isOpenTaskOf : MethodName := ⟨RX1, "isOpenTaskOf", "(II)Z"⟩
abbrev cX1_countOpenTasks : ByteArray := prog_3_method_22_code
def yX1_countOpenTasks : MethodName := ⟨RX1, "countOpenTasks", "()I"⟩
abbrev cX1_countOpenDeepTasks : ByteArray := prog_3_method_23_code
def yX1_countOpenDeepTasks : MethodName := ⟨RX1, "countOpenDeepTasks", "()I"⟩
abbrev cX1_countOpenTasksOf : ByteArray := prog_3_method_24_code
def yX1_countOpenTasksOf : MethodName := ⟨RX1, "countOpenTasksOf", "(I)I"⟩
abbrev cX1_firstOpenTaskOf : ByteArray := prog_3_method_25_code
def yX1_firstOpenTaskOf : MethodName := ⟨RX1, "firstOpenTaskOf", "(I)I"⟩
abbrev cX1_finish : ByteArray := prog_3_method_26_code
def yX1_finish : MethodName := ⟨RX1, "finish", "(I)I"⟩
abbrev cX1_isTwinOpen : ByteArray := prog_3_method_27_code
def yX1_isTwinOpen : MethodName := ⟨RX1, "isTwinOpen", "(I)Z"⟩
abbrev cX1_finishFromTo : ByteArray := prog_3_method_28_code
def yX1_finishFromTo : MethodName := ⟨RX1, "finishFromTo", "(II)V"⟩
abbrev cX1_finishOpenTasks : ByteArray := prog_3_method_29_code
def yX1_finishOpenTasks : MethodName := ⟨RX1, "finishOpenTasks", "()V"⟩
abbrev cX1_payDebt : ByteArray := prog_3_method_30_code
def yX1_payDebt : MethodName := ⟨RX1, "payDebt", "(II)I"⟩
abbrev cX1_endWeek : ByteArray := prog_3_method_31_code
def yX1_endWeek : MethodName := ⟨RX1, "endWeek", "()I"⟩
abbrev cX1_skip : ByteArray := prog_3_method_32_code
def yX1_skip : MethodName := ⟨RX1, "skip", "(I)V"⟩
abbrev cX1_decayPoints : ByteArray := prog_3_method_33_code
def yX1_decayPoints : MethodName := ⟨RX1, "decayPoints", "()V"⟩
abbrev cX1_growDirt : ByteArray := prog_3_method_34_code
def yX1_growDirt : MethodName := ⟨RX1, "growDirt", "()V"⟩
abbrev cX1_canExchange : ByteArray := prog_3_method_35_code
def yX1_canExchange : MethodName := ⟨RX1, "canExchange", "(II)Z"⟩
abbrev cX1_isProposed : ByteArray := prog_3_method_36_code
def yX1_isProposed : MethodName := ⟨RX1, "isProposed", "(II)Z"⟩
abbrev cX1_addSwap : ByteArray := prog_3_method_37_code
def yX1_addSwap : MethodName := ⟨RX1, "addSwap", "(II)I"⟩
abbrev cX1_declineSwap : ByteArray := prog_3_method_38_code
def yX1_declineSwap : MethodName := ⟨RX1, "declineSwap", "(I)I"⟩
abbrev cX1_acceptSwap : ByteArray := prog_3_method_39_code
def yX1_acceptSwap : MethodName := ⟨RX1, "acceptSwap", "(I)I"⟩
abbrev cX1_gainOfExchange : ByteArray := prog_3_method_40_code
def yX1_gainOfExchange : MethodName := ⟨RX1, "gainOfExchange", "(II)I"⟩
abbrev cX1_dropSwapsWith : ByteArray := prog_3_method_41_code
def yX1_dropSwapsWith : MethodName := ⟨RX1, "dropSwapsWith", "(I)V"⟩
abbrev cX1_rateOf : ByteArray := prog_3_method_42_code
def yX1_rateOf : MethodName := ⟨RX1, "rateOf", "(II)I"⟩
abbrev cX1_spread : ByteArray := prog_3_method_43_code
def yX1_spread : MethodName := ⟨RX1, "spread", "()I"⟩
abbrev cX1_plannedSpread : ByteArray := prog_3_method_44_code
def yX1_plannedSpread : MethodName := ⟨RX1, "plannedSpread", "()I"⟩
abbrev cX1_spreadIfExchanged : ByteArray := prog_3_method_45_code
def yX1_spreadIfExchanged : MethodName := ⟨RX1, "spreadIfExchanged", "(II)I"⟩
abbrev cX1_spreadOf : ByteArray := prog_3_method_46_code
def yX1_spreadOf : MethodName := ⟨RX1, "spreadOf", "(ZIII)I"⟩
def RX2 : String := "CleaningRota$Pad"
def TX2 : u_T := fun k => match k with
  | 0 => ("CleaningRota$Pad", "characters", "[C", true)
  | 1 => ("CleaningRota$Pad", "length", "I", false)
  | _ => ("CleaningRota$Pad", "parts", "LCleaningRota$Table;", true)
def tyX2 : Nat → FieldType := fun k => match k with
  | 0 => .array .char
  | 1 => .int
  | _ => .object "CleaningRota$Table"
abbrev wsX20 : List Cond := u_ws RX2 TX2 3
theorem nmX2 : ∀ a, a < 3 → ∀ b, b < 3 → a ≠ b → (TX2 a).2.1 ≠ (TX2 b).2.1 := by decide +kernel
theorem tyX2_ok : ∀ k, k < 3 → parseFieldDescriptor (TX2 k).2.2.1 = some (tyX2 k) := by decide +kernel
abbrev cX2_init : ByteArray := prog_4_method_1_code
def yX2_init : MethodName := ⟨RX2, "<init>", "()V"⟩
abbrev cX2_countCharacters : ByteArray := prog_4_method_2_code
def yX2_countCharacters : MethodName := ⟨RX2, "countCharacters", "(J)I"⟩
abbrev cX2_append : ByteArray := prog_4_method_3_code
def yX2_append : MethodName := ⟨RX2, "append", "(JI)V"⟩
abbrev cX2_characterAt : ByteArray := prog_4_method_4_code
def yX2_characterAt : MethodName := ⟨RX2, "characterAt", "(I)I"⟩
abbrev cX2_isDigitAt : ByteArray := prog_4_method_5_code
def yX2_isDigitAt : MethodName := ⟨RX2, "isDigitAt", "(I)Z"⟩
abbrev cX2_read : ByteArray := prog_4_method_6_code
def yX2_read : MethodName := ⟨RX2, "read", "()I"⟩
abbrev cX2_addPart : ByteArray := prog_4_method_7_code
def yX2_addPart : MethodName := ⟨RX2, "addPart", "(II)V"⟩
abbrev cX2_endOfNumber : ByteArray := prog_4_method_8_code
def yX2_endOfNumber : MethodName := ⟨RX2, "endOfNumber", "(I)I"⟩
abbrev cX2_numberIn : ByteArray := prog_4_method_9_code
def yX2_numberIn : MethodName := ⟨RX2, "numberIn", "(II)I"⟩
def RX3 : String := "CleaningRota$Table"
def TX3 : u_T := fun k => match k with
  | 0 => ("CleaningRota$Table", "most", "I", true)
  | 1 => ("CleaningRota$Table", "width", "I", true)
  | 2 => ("CleaningRota$Table", "cells", "[I", true)
  | _ => ("CleaningRota$Table", "rows", "I", false)
def tyX3 : Nat → FieldType := fun k => match k with
  | 0 => .int
  | 1 => .int
  | 2 => .array .int
  | _ => .int
abbrev wsX30 : List Cond := u_ws RX3 TX3 4
theorem nmX3 : ∀ a, a < 4 → ∀ b, b < 4 → a ≠ b → (TX3 a).2.1 ≠ (TX3 b).2.1 := by decide +kernel
theorem tyX3_ok : ∀ k, k < 4 → parseFieldDescriptor (TX3 k).2.2.1 = some (tyX3 k) := by decide +kernel
abbrev cX3_init : ByteArray := prog_5_method_1_code
def yX3_init : MethodName := ⟨RX3, "<init>", "(II)V"⟩
abbrev cX3_size : ByteArray := prog_5_method_2_code
def yX3_size : MethodName := ⟨RX3, "size", "()I"⟩
abbrev cX3_isFull : ByteArray := prog_5_method_3_code
def yX3_isFull : MethodName := ⟨RX3, "isFull", "()Z"⟩
abbrev cX3_has : ByteArray := prog_5_method_4_code
def yX3_has : MethodName := ⟨RX3, "has", "(I)Z"⟩
abbrev cX3_cell : ByteArray := prog_5_method_5_code
def yX3_cell : MethodName := ⟨RX3, "cell", "(II)I"⟩
abbrev cX3_write : ByteArray := prog_5_method_6_code
def yX3_write : MethodName := ⟨RX3, "write", "(III)V"⟩
abbrev cX3_increase : ByteArray := prog_5_method_7_code
def yX3_increase : MethodName := ⟨RX3, "increase", "(III)V"⟩
abbrev cX3_exchange : ByteArray := prog_5_method_8_code
def yX3_exchange : MethodName := ⟨RX3, "exchange", "(III)I"⟩
abbrev cX3_append : ByteArray := prog_5_method_9_code
def yX3_append : MethodName := ⟨RX3, "append", "()I"⟩
abbrev cX3_remove : ByteArray := prog_5_method_10_code
def yX3_remove : MethodName := ⟨RX3, "remove", "(I)V"⟩
abbrev cX3_clear : ByteArray := prog_5_method_11_code
def yX3_clear : MethodName := ⟨RX3, "clear", "()V"⟩
abbrev cX3_copyFrom : ByteArray := prog_5_method_12_code
def yX3_copyFrom : MethodName := ⟨RX3, "copyFrom", "(LCleaningRota$Table;)V"⟩
def RX4 : String := "CleaningRota"
def TX4 : u_T := fun k => match k with
  | 0 => ("CleaningRota", "house", "LCleaningRota$House;", true)
  | 1 => ("CleaningRota", "trial", "LCleaningRota$House;", true)
  | 2 => ("CleaningRota", "history", "LCleaningRota$History;", true)
  | _ => ("CleaningRota", "pad", "LCleaningRota$Pad;", true)
def tyX4 : Nat → FieldType := fun k => match k with
  | 0 => .object "CleaningRota$House"
  | 1 => .object "CleaningRota$House"
  | 2 => .object "CleaningRota$History"
  | _ => .object "CleaningRota$Pad"
abbrev wsX40 : List Cond := u_ws RX4 TX4 4
theorem nmX4 : ∀ a, a < 4 → ∀ b, b < 4 → a ≠ b → (TX4 a).2.1 ≠ (TX4 b).2.1 := by decide +kernel
theorem tyX4_ok : ∀ k, k < 4 → parseFieldDescriptor (TX4 k).2.2.1 = some (tyX4 k) := by decide +kernel
abbrev cX4_init : ByteArray := prog_1_method_1_code
def yX4_init : MethodName := ⟨RX4, "<init>", "()V"⟩
abbrev cX4_resident : ByteArray := prog_1_method_2_code
def yX4_resident : MethodName := ⟨RX4, "resident", "(I)I"⟩
abbrev cX4_weigh : ByteArray := prog_1_method_3_code
def yX4_weigh : MethodName := ⟨RX4, "weigh", "(II)I"⟩
abbrev cX4_away : ByteArray := prog_1_method_4_code
def yX4_away : MethodName := ⟨RX4, "away", "(III)I"⟩
abbrev cX4_area : ByteArray := prog_1_method_5_code
def yX4_area : MethodName := ⟨RX4, "area", "(III)I"⟩
abbrev cX4_set : ByteArray := prog_1_method_6_code
def yX4_set : MethodName := ⟨RX4, "set", "(II)I"⟩
abbrev cX4_plan : ByteArray := prog_1_method_7_code
def yX4_plan : MethodName := ⟨RX4, "plan", "()I"⟩
abbrev cX4_done : ByteArray := prog_1_method_8_code
def yX4_done : MethodName := ⟨RX4, "done", "(I)I"⟩
abbrev cX4_extra : ByteArray := prog_1_method_9_code
def yX4_extra : MethodName := ⟨RX4, "extra", "(II)I"⟩
abbrev cX4_end : ByteArray := prog_1_method_10_code
def yX4_end : MethodName := ⟨RX4, "end", "()I"⟩
abbrev cX4_propose : ByteArray := prog_1_method_11_code
def yX4_propose : MethodName := ⟨RX4, "propose", "(II)I"⟩
abbrev cX4_answer : ByteArray := prog_1_method_12_code
def yX4_answer : MethodName := ⟨RX4, "answer", "(II)I"⟩
abbrev cX4_about : ByteArray := prog_1_method_13_code
def yX4_about : MethodName := ⟨RX4, "about", "(II)I"⟩
abbrev cX4_room : ByteArray := prog_1_method_14_code
def yX4_room : MethodName := ⟨RX4, "room", "(II)I"⟩
abbrev cX4_task : ByteArray := prog_1_method_15_code
def yX4_task : MethodName := ⟨RX4, "task", "(II)I"⟩
abbrev cX4_swap : ByteArray := prog_1_method_16_code
def yX4_swap : MethodName := ⟨RX4, "swap", "(II)I"⟩
abbrev cX4_count : ByteArray := prog_1_method_17_code
def yX4_count : MethodName := ⟨RX4, "count", "(I)I"⟩
abbrev cX4_forecast : ByteArray := prog_1_method_18_code
def yX4_forecast : MethodName := ⟨RX4, "forecast", "(II)I"⟩
abbrev cX4_fairer : ByteArray := prog_1_method_19_code
def yX4_fairer : MethodName := ⟨RX4, "fairer", "(I)I"⟩
abbrev cX4_put : ByteArray := prog_1_method_20_code
def yX4_put : MethodName := ⟨RX4, "put", "(J)I"⟩
abbrev cX4_wipe : ByteArray := prog_1_method_21_code
def yX4_wipe : MethodName := ⟨RX4, "wipe", "()I"⟩
abbrev cX4_fault : ByteArray := prog_1_method_22_code
def yX4_fault : MethodName := ⟨RX4, "fault", "()I"⟩
abbrev cX4_load : ByteArray := prog_1_method_23_code
def yX4_load : MethodName := ⟨RX4, "load", "()I"⟩
abbrev cX4_undo : ByteArray := prog_1_method_24_code
def yX4_undo : MethodName := ⟨RX4, "undo", "()I"⟩
abbrev cX4_isIn : ByteArray := prog_1_method_25_code
def yX4_isIn : MethodName := ⟨RX4, "isIn", "(III)Z"⟩
abbrev cX4_isWeight : ByteArray := prog_1_method_26_code
def yX4_isWeight : MethodName := ⟨RX4, "isWeight", "(I)Z"⟩
abbrev cX4_isSettingValue : ByteArray := prog_1_method_27_code
def yX4_isSettingValue : MethodName := ⟨RX4, "isSettingValue", "(II)Z"⟩
abbrev cX4_bit : ByteArray := prog_1_method_28_code
def yX4_bit : MethodName := ⟨RX4, "bit", "(Z)I"⟩
def RX5 : String := "CleaningRotaModel"
def TX5 : u_T := fun k => match k with
  | 0 => ("CleaningRotaModel", "at", "[I", true)
  | 1 => ("CleaningRotaModel", "aside", "[I", true)
  | 2 => ("CleaningRotaModel", "past", "[I", true)
  | 3 => ("CleaningRotaModel", "pastMany", "I", false)
  | 4 => ("CleaningRotaModel", "pad", "[I", true)
  | 5 => ("CleaningRotaModel", "padMany", "I", false)
  | 6 => ("CleaningRotaModel", "spot", "I", false)
  | 7 => ("CleaningRotaModel", "isWrong", "Z", false)
  | 8 => ("CleaningRotaModel", "lesser", "I", false)
  | 9 => ("CleaningRotaModel", "read", "[I", true)
  | _ => ("CleaningRotaModel", "readMany", "I", false)
def tyX5 : Nat → FieldType := fun k => match k with
  | 0 => .array .int
  | 1 => .array .int
  | 2 => .array .int
  | 3 => .int
  | 4 => .array .int
  | 5 => .int
  | 6 => .int
  | 7 => .boolean
  | 8 => .int
  | 9 => .array .int
  | _ => .int
abbrev wsX50 : List Cond := u_ws RX5 TX5 11
theorem nmX5 : ∀ a, a < 11 → ∀ b, b < 11 → a ≠ b → (TX5 a).2.1 ≠ (TX5 b).2.1 := by decide +kernel
theorem tyX5_ok : ∀ k, k < 11 → parseFieldDescriptor (TX5 k).2.2.1 = some (tyX5 k) := by decide +kernel
abbrev cX5_init : ByteArray := prog_7_method_1_code
def yX5_init : MethodName := ⟨RX5, "<init>", "()V"⟩
abbrev cX5_in : ByteArray := prog_7_method_3_code
def yX5_in : MethodName := ⟨RX5, "in", "(III)Z"⟩
abbrev cX5_setting : ByteArray := prog_7_method_4_code
def yX5_setting : MethodName := ⟨RX5, "setting", "(I)I"⟩
abbrev cX5_of : ByteArray := prog_7_method_5_code
def yX5_of : MethodName := ⟨RX5, "of", "(II)I"⟩
abbrev cX5_lay : ByteArray := prog_7_method_6_code
def yX5_lay : MethodName := ⟨RX5, "lay", "(III)V"⟩
abbrev cX5_ofArea : ByteArray := prog_7_method_7_code
def yX5_ofArea : MethodName := ⟨RX5, "ofArea", "(II)I"⟩
abbrev cX5_layArea : ByteArray := prog_7_method_8_code
def yX5_layArea : MethodName := ⟨RX5, "layArea", "(III)V"⟩
abbrev cX5_ofTask : ByteArray := prog_7_method_9_code
def yX5_ofTask : MethodName := ⟨RX5, "ofTask", "(II)I"⟩
abbrev cX5_layTask : ByteArray := prog_7_method_10_code
def yX5_layTask : MethodName := ⟨RX5, "layTask", "(III)V"⟩
abbrev cX5_ofSwap : ByteArray := prog_7_method_11_code
def yX5_ofSwap : MethodName := ⟨RX5, "ofSwap", "(II)I"⟩
abbrev cX5_isResident : ByteArray := prog_7_method_12_code
def yX5_isResident : MethodName := ⟨RX5, "isResident", "(I)Z"⟩
abbrev cX5_isArea : ByteArray := prog_7_method_13_code
def yX5_isArea : MethodName := ⟨RX5, "isArea", "(I)Z"⟩
abbrev cX5_isTask : ByteArray := prog_7_method_14_code
def yX5_isTask : MethodName := ⟨RX5, "isTask", "(I)Z"⟩
abbrev cX5_keep : ByteArray := prog_7_method_15_code
def yX5_keep : MethodName := ⟨RX5, "keep", "()V"⟩
abbrev cX5_resident : ByteArray := prog_7_method_16_code
def yX5_resident : MethodName := ⟨RX5, "resident", "(I)I"⟩
abbrev cX5_weigh : ByteArray := prog_7_method_17_code
def yX5_weigh : MethodName := ⟨RX5, "weigh", "(II)I"⟩
abbrev cX5_isAway : ByteArray := prog_7_method_18_code
def yX5_isAway : MethodName := ⟨RX5, "isAway", "(I)Z"⟩
abbrev cX5_away : ByteArray := prog_7_method_19_code
def yX5_away : MethodName := ⟨RX5, "away", "(III)I"⟩
abbrev cX5_area : ByteArray := prog_7_method_20_code
def yX5_area : MethodName := ⟨RX5, "area", "(III)I"⟩
abbrev cX5_takes : ByteArray := prog_7_method_21_code
def yX5_takes : MethodName := ⟨RX5, "takes", "(II)Z"⟩
abbrev cX5_set : ByteArray := prog_7_method_22_code
def yX5_set : MethodName := ⟨RX5, "set", "(II)I"⟩
abbrev cX5_isDue : ByteArray := prog_7_method_23_code
def yX5_isDue : MethodName := ⟨RX5, "isDue", "(I)Z"⟩
abbrev cX5_needsDeep : ByteArray := prog_7_method_24_code
def yX5_needsDeep : MethodName := ⟨RX5, "needsDeep", "(I)Z"⟩
abbrev cX5_addTask : ByteArray := prog_7_method_25_code
def yX5_addTask : MethodName := ⟨RX5, "addTask", "(III)V"⟩
abbrev cX5_loadOf : ByteArray := prog_7_method_26_code
def yX5_loadOf : MethodName := ⟨RX5, "loadOf", "(I)I"⟩
abbrev cX5_isAhead : ByteArray := prog_7_method_27_code
def yX5_isAhead : MethodName := ⟨RX5, "isAhead", "(II)Z"⟩
abbrev cX5_bestFor : ByteArray := prog_7_method_28_code
def yX5_bestFor : MethodName := ⟨RX5, "bestFor", "(I)I"⟩
abbrev cX5_partnerOf : ByteArray := prog_7_method_29_code
def yX5_partnerOf : MethodName := ⟨RX5, "partnerOf", "(I)I"⟩
abbrev cX5_makePlan : ByteArray := prog_7_method_30_code
def yX5_makePlan : MethodName := ⟨RX5, "makePlan", "()I"⟩
abbrev cX5_plan : ByteArray := prog_7_method_31_code
def yX5_plan : MethodName := ⟨RX5, "plan", "()I"⟩
abbrev cX5_clean : ByteArray := prog_7_method_32_code
def yX5_clean : MethodName := ⟨RX5, "clean", "(I)V"⟩
abbrev cX5_removeSwap : ByteArray := prog_7_method_33_code
def yX5_removeSwap : MethodName := ⟨RX5, "removeSwap", "(I)V"⟩
abbrev cX5_dropSwaps : ByteArray := prog_7_method_34_code
def yX5_dropSwaps : MethodName := ⟨RX5, "dropSwaps", "(I)V"⟩
abbrev cX5_isLastOf : ByteArray := prog_7_method_35_code
def yX5_isLastOf : MethodName := ⟨RX5, "isLastOf", "(I)Z"⟩
abbrev cX5_finish : ByteArray := prog_7_method_36_code
def yX5_finish : MethodName := ⟨RX5, "finish", "(I)I"⟩
abbrev cX5_done : ByteArray := prog_7_method_37_code
def yX5_done : MethodName := ⟨RX5, "done", "(I)I"⟩
abbrev cX5_extra : ByteArray := prog_7_method_38_code
def yX5_extra : MethodName := ⟨RX5, "extra", "(II)I"⟩
abbrev cX5_makeEnd : ByteArray := prog_7_method_39_code
def yX5_makeEnd : MethodName := ⟨RX5, "makeEnd", "()I"⟩
abbrev cX5_end : ByteArray := prog_7_method_40_code
def yX5_end : MethodName := ⟨RX5, "end", "()I"⟩
abbrev cX5_isProposed : ByteArray := prog_7_method_41_code
def yX5_isProposed : MethodName := ⟨RX5, "isProposed", "(II)Z"⟩
abbrev cX5_propose : ByteArray := prog_7_method_42_code
def yX5_propose : MethodName := ⟨RX5, "propose", "(II)I"⟩
abbrev cX5_exchange : ByteArray := prog_7_method_43_code
def yX5_exchange : MethodName := ⟨RX5, "exchange", "(II)V"⟩
abbrev cX5_answer : ByteArray := prog_7_method_44_code
def yX5_answer : MethodName := ⟨RX5, "answer", "(II)I"⟩
abbrev cX5_openOf : ByteArray := prog_7_method_45_code
def yX5_openOf : MethodName := ⟨RX5, "openOf", "(IZ)I"⟩
abbrev cX5_about : ByteArray := prog_7_method_46_code
def yX5_about : MethodName := ⟨RX5, "about", "(II)I"⟩
abbrev cX5_room : ByteArray := prog_7_method_47_code
def yX5_room : MethodName := ⟨RX5, "room", "(II)I"⟩
abbrev cX5_task : ByteArray := prog_7_method_48_code
def yX5_task : MethodName := ⟨RX5, "task", "(II)I"⟩
abbrev cX5_swap : ByteArray := prog_7_method_49_code
def yX5_swap : MethodName := ⟨RX5, "swap", "(II)I"⟩
abbrev cX5_spread : ByteArray := prog_7_method_50_code
def yX5_spread : MethodName := ⟨RX5, "spread", "(Z)I"⟩
abbrev cX5_openTasks : ByteArray := prog_7_method_51_code
def yX5_openTasks : MethodName := ⟨RX5, "openTasks", "()I"⟩
abbrev cX5_count : ByteArray := prog_7_method_52_code
def yX5_count : MethodName := ⟨RX5, "count", "(I)I"⟩
abbrev cX5_putAside : ByteArray := prog_7_method_53_code
def yX5_putAside : MethodName := ⟨RX5, "putAside", "()V"⟩
abbrev cX5_putBack : ByteArray := prog_7_method_54_code
def yX5_putBack : MethodName := ⟨RX5, "putBack", "()V"⟩
abbrev cX5_foulest : ByteArray := prog_7_method_55_code
def yX5_foulest : MethodName := ⟨RX5, "foulest", "()I"⟩
abbrev cX5_forecast : ByteArray := prog_7_method_56_code
def yX5_forecast : MethodName := ⟨RX5, "forecast", "(II)I"⟩
abbrev cX5_fairer : ByteArray := prog_7_method_57_code
def yX5_fairer : MethodName := ⟨RX5, "fairer", "(I)I"⟩
abbrev cX5_put : ByteArray := prog_7_method_58_code
def yX5_put : MethodName := ⟨RX5, "put", "(J)I"⟩
abbrev cX5_wipe : ByteArray := prog_7_method_59_code
def yX5_wipe : MethodName := ⟨RX5, "wipe", "()I"⟩
abbrev cX5_next : ByteArray := prog_7_method_60_code
def yX5_next : MethodName := ⟨RX5, "next", "()I"⟩
abbrev cX5_takeNumber : ByteArray := prog_7_method_61_code
def yX5_takeNumber : MethodName := ⟨RX5, "takeNumber", "()I"⟩
abbrev cX5_takePart : ByteArray := prog_7_method_62_code
def yX5_takePart : MethodName := ⟨RX5, "takePart", "()V"⟩
abbrev cX5_fault : ByteArray := prog_7_method_63_code
def yX5_fault : MethodName := ⟨RX5, "fault", "()I"⟩
abbrev cX5_load : ByteArray := prog_7_method_64_code
def yX5_load : MethodName := ⟨RX5, "load", "()I"⟩
abbrev cX5_undo : ByteArray := prog_7_method_65_code
def yX5_undo : MethodName := ⟨RX5, "undo", "()I"⟩
def RJ9 : String := "java/lang/Math"
def TJ9 : u_T := fun k => match k with
  | _ => ("", "", "", false)
def tyJ9 : Nat → FieldType := fun k => match k with
  | _ => .int
abbrev wsJ90 : List Cond := u_ws RJ9 TJ9 0
theorem nmJ9 : ∀ a, a < 0 → ∀ b, b < 0 → a ≠ b → (TJ9 a).2.1 ≠ (TJ9 b).2.1 := by decide +kernel
theorem tyJ9_ok : ∀ k, k < 0 → parseFieldDescriptor (TJ9 k).2.2.1 = some (tyJ9 k) := by decide +kernel
abbrev cJ9_max_7cf53 : ByteArray := prog_8_method_65_code
def yJ9_max_7cf53 : MethodName := ⟨RJ9, "max", "(II)I"⟩
abbrev cJ9_min_7cf53 : ByteArray := prog_8_method_69_code
def yJ9_min_7cf53 : MethodName := ⟨RJ9, "min", "(II)I"⟩
def RJ10 : String := "java/lang/System"
def TJ10 : u_T := fun k => match k with
  | _ => ("", "", "", false)
def tyJ10 : Nat → FieldType := fun k => match k with
  | _ => .int
abbrev wsJ100 : List Cond := u_ws RJ10 TJ10 0
theorem nmJ10 : ∀ a, a < 0 → ∀ b, b < 0 → a ≠ b → (TJ10 a).2.1 ≠ (TJ10 b).2.1 := by decide +kernel
theorem tyJ10_ok : ∀ k, k < 0 → parseFieldDescriptor (TJ10 k).2.2.1 = some (tyJ10 k) := by decide +kernel
def RL : String := "CleaningRotaLaw"
abbrev cL_law : ByteArray := code
def yL_law : MethodName := ⟨RL, "law", "([I)Z"⟩
abbrev vwCl : List vw_C := [(RX0, TX0, 2), (RX1, TX1, 9), (RX2, TX2, 3), (RX3, TX3, 4), (RX4, TX4, 4), (RX5, TX5, 11)]
-- ===== words, by their places =====
def TG : List Cond := lw_tbl.filter goodWord
theorem TG_in : ∀ w ∈ TG, w ∈ lw_tbl := fun _ h => (List.mem_filter.mp h).1
theorem TG_good : ∀ w ∈ TG, goodWord w = true := fun _ h => (List.mem_filter.mp h).2
theorem tg (i : Nat) {w : Cond} (h : lw_tbl[i]? = some w) (hg : goodWord w = true) : w ∈ TG := List.mem_filter.mpr ⟨List.mem_of_getElem? h, hg⟩
def VLink (own : String) (idx : Nat) (y : MethodName) : Prop := Cond.methodLink own idx y ∈ TG ∧ Cond.instanceMethod y ∈ TG ∧ Cond.selects y.cls y y ∈ TG ∧ Cond.initialized y.cls ∈ TG
def SLink (own : String) (idx : Nat) (y : MethodName) : Prop := Cond.methodLink own idx y ∈ TG ∧ Cond.static y ∈ TG ∧ Cond.initialized y.cls ∈ TG
def ILink (own : String) (idx : Nat) (y : MethodName) : Prop := Cond.methodLink own idx y ∈ TG ∧ Cond.instanceMethod y ∈ TG ∧ Cond.initialized y.cls ∈ TG
def NLink (y : MethodName) : Prop := Cond.static y ∈ TG ∧ Cond.initialized y.cls ∈ TG
theorem cd_X4_init : Cond.code yX4_init cX4_init 1 none ∈ TG := tg 74 (by decide +kernel) (by decide +kernel)
theorem cd_X1_init : Cond.code yX1_init cX1_init 1 none ∈ TG := tg 82 (by decide +kernel) (by decide +kernel)
theorem cd_X3_init : Cond.code yX3_init cX3_init 3 none ∈ TG := tg 88 (by decide +kernel) (by decide +kernel)
theorem cd_X3_append : Cond.code yX3_append cX3_append 3 (some .int) ∈ TG := tg 110 (by decide +kernel) (by decide +kernel)
theorem cd_X3_isFull : Cond.code yX3_isFull cX3_isFull 1 (some .boolean) ∈ TG := tg 114 (by decide +kernel) (by decide +kernel)
theorem cd_X3_write : Cond.code yX3_write cX3_write 5 none ∈ TG := tg 118 (by decide +kernel) (by decide +kernel)
theorem cd_X0_init : Cond.code yX0_init cX0_init 2 none ∈ TG := tg 161 (by decide +kernel) (by decide +kernel)
theorem cd_X2_init : Cond.code yX2_init cX2_init 1 none ∈ TG := tg 178 (by decide +kernel) (by decide +kernel)
theorem cd_X4_resident : Cond.code yX4_resident cX4_resident 2 (some .int) ∈ TG := tg 211 (by decide +kernel) (by decide +kernel)
theorem cd_X4_isWeight : Cond.code yX4_isWeight cX4_isWeight 1 (some .boolean) ∈ TG := tg 214 (by decide +kernel) (by decide +kernel)
theorem cd_X4_isIn : Cond.code yX4_isIn cX4_isIn 3 (some .boolean) ∈ TG := tg 217 (by decide +kernel) (by decide +kernel)
theorem cd_X0_keep : Cond.code yX0_keep cX0_keep 3 none ∈ TG := tg 222 (by decide +kernel) (by decide +kernel)
theorem cd_X0_dropOldest : Cond.code yX0_dropOldest cX0_dropOldest 3 none ∈ TG := tg 226 (by decide +kernel) (by decide +kernel)
theorem cd_X0_stateAt : Cond.code yX0_stateAt cX0_stateAt 2 (some (.object "CleaningRota$House")) ∈ TG := tg 230 (by decide +kernel) (by decide +kernel)
theorem cd_X1_copyFrom : Cond.code yX1_copyFrom cX1_copyFrom 2 none ∈ TG := tg 234 (by decide +kernel) (by decide +kernel)
theorem cd_X3_copyFrom : Cond.code yX3_copyFrom cX3_copyFrom 2 none ∈ TG := tg 238 (by decide +kernel) (by decide +kernel)
theorem cd_X1_addResident : Cond.code yX1_addResident cX1_addResident 3 (some .int) ∈ TG := tg 248 (by decide +kernel) (by decide +kernel)
theorem cd_X4_weigh : Cond.code yX4_weigh cX4_weigh 3 (some .int) ∈ TG := tg 252 (by decide +kernel) (by decide +kernel)
theorem cd_X3_has : Cond.code yX3_has cX3_has 2 (some .boolean) ∈ TG := tg 256 (by decide +kernel) (by decide +kernel)
theorem cd_X3_exchange : Cond.code yX3_exchange cX3_exchange 5 (some .int) ∈ TG := tg 260 (by decide +kernel) (by decide +kernel)
theorem cd_X3_cell : Cond.code yX3_cell cX3_cell 4 (some .int) ∈ TG := tg 264 (by decide +kernel) (by decide +kernel)
theorem cd_X4_away : Cond.code yX4_away cX4_away 4 (some .int) ∈ TG := tg 268 (by decide +kernel) (by decide +kernel)
theorem cd_X1_isAway : Cond.code yX1_isAway cX1_isAway 2 (some .boolean) ∈ TG := tg 273 (by decide +kernel) (by decide +kernel)
theorem cd_X4_bit : Cond.code yX4_bit cX4_bit 1 (some .int) ∈ TG := tg 278 (by decide +kernel) (by decide +kernel)
theorem cd_X4_area : Cond.code yX4_area cX4_area 4 (some .int) ∈ TG := tg 282 (by decide +kernel) (by decide +kernel)
theorem cd_X1_addArea : Cond.code yX1_addArea cX1_addArea 5 (some .int) ∈ TG := tg 286 (by decide +kernel) (by decide +kernel)
theorem cd_X4_set : Cond.code yX4_set cX4_set 3 (some .int) ∈ TG := tg 290 (by decide +kernel) (by decide +kernel)
theorem cd_X4_isSettingValue : Cond.code yX4_isSettingValue cX4_isSettingValue 2 (some .boolean) ∈ TG := tg 293 (by decide +kernel) (by decide +kernel)
theorem cd_X4_plan : Cond.code yX4_plan cX4_plan 1 (some .int) ∈ TG := tg 297 (by decide +kernel) (by decide +kernel)
theorem cd_X1_planWeek : Cond.code yX1_planWeek cX1_planWeek 2 (some .int) ∈ TG := tg 301 (by decide +kernel) (by decide +kernel)
theorem cd_X1_leastLoaded : Cond.code yX1_leastLoaded cX1_leastLoaded 5 (some .int) ∈ TG := tg 305 (by decide +kernel) (by decide +kernel)
theorem cd_X3_size : Cond.code yX3_size cX3_size 1 (some .int) ∈ TG := tg 309 (by decide +kernel) (by decide +kernel)
theorem cd_X1_goesAhead : Cond.code yX1_goesAhead cX1_goesAhead 5 (some .boolean) ∈ TG := tg 314 (by decide +kernel) (by decide +kernel)
theorem cd_X1_loadOf : Cond.code yX1_loadOf cX1_loadOf 2 (some .int) ∈ TG := tg 318 (by decide +kernel) (by decide +kernel)
theorem cd_X1_makeTasks : Cond.code yX1_makeTasks cX1_makeTasks 6 none ∈ TG := tg 322 (by decide +kernel) (by decide +kernel)
theorem cd_X1_areaOfNextTask : Cond.code yX1_areaOfNextTask cX1_areaOfNextTask 6 (some .int) ∈ TG := tg 326 (by decide +kernel) (by decide +kernel)
theorem cd_X1_effortOfTask : Cond.code yX1_effortOfTask cX1_effortOfTask 3 (some .int) ∈ TG := tg 330 (by decide +kernel) (by decide +kernel)
theorem cd_X1_needsDeepClean : Cond.code yX1_needsDeepClean cX1_needsDeepClean 2 (some .boolean) ∈ TG := tg 334 (by decide +kernel) (by decide +kernel)
theorem cd_X1_isDue : Cond.code yX1_isDue cX1_isDue 3 (some .boolean) ∈ TG := tg 338 (by decide +kernel) (by decide +kernel)
theorem cd_X1_addTask : Cond.code yX1_addTask cX1_addTask 5 none ∈ TG := tg 342 (by decide +kernel) (by decide +kernel)
theorem cd_X1_giveTasks : Cond.code yX1_giveTasks cX1_giveTasks 3 none ∈ TG := tg 347 (by decide +kernel) (by decide +kernel)
theorem cd_X1_hasTwinAhead : Cond.code yX1_hasTwinAhead cX1_hasTwinAhead 2 (some .boolean) ∈ TG := tg 351 (by decide +kernel) (by decide +kernel)
theorem cd_X3_increase : Cond.code yX3_increase cX3_increase 4 none ∈ TG := tg 355 (by decide +kernel) (by decide +kernel)
theorem cd_X4_done : Cond.code yX4_done cX4_done 2 (some .int) ∈ TG := tg 359 (by decide +kernel) (by decide +kernel)
theorem cd_X1_isOpen : Cond.code yX1_isOpen cX1_isOpen 2 (some .boolean) ∈ TG := tg 363 (by decide +kernel) (by decide +kernel)
theorem cd_X1_finish : Cond.code yX1_finish cX1_finish 4 (some .int) ∈ TG := tg 368 (by decide +kernel) (by decide +kernel)
theorem cd_X1_isTwinOpen : Cond.code yX1_isTwinOpen cX1_isTwinOpen 2 (some .boolean) ∈ TG := tg 372 (by decide +kernel) (by decide +kernel)
theorem cd_X1_clean : Cond.code yX1_clean cX1_clean 2 none ∈ TG := tg 377 (by decide +kernel) (by decide +kernel)
theorem cd_X1_dropSwapsWith : Cond.code yX1_dropSwapsWith cX1_dropSwapsWith 3 none ∈ TG := tg 381 (by decide +kernel) (by decide +kernel)
theorem cd_X3_remove : Cond.code yX3_remove cX3_remove 4 none ∈ TG := tg 385 (by decide +kernel) (by decide +kernel)
theorem cd_X4_extra : Cond.code yX4_extra cX4_extra 3 (some .int) ∈ TG := tg 390 (by decide +kernel) (by decide +kernel)
theorem cd_X1_payDebt : Cond.code yX1_payDebt cX1_payDebt 4 (some .int) ∈ TG := tg 395 (by decide +kernel) (by decide +kernel)
theorem cd_X4_end : Cond.code yX4_end cX4_end 1 (some .int) ∈ TG := tg 400 (by decide +kernel) (by decide +kernel)
theorem cd_X1_endWeek : Cond.code yX1_endWeek cX1_endWeek 3 (some .int) ∈ TG := tg 404 (by decide +kernel) (by decide +kernel)
theorem cd_X1_countOpenTasks : Cond.code yX1_countOpenTasks cX1_countOpenTasks 3 (some .int) ∈ TG := tg 408 (by decide +kernel) (by decide +kernel)
theorem cd_X1_skip : Cond.code yX1_skip cX1_skip 4 none ∈ TG := tg 412 (by decide +kernel) (by decide +kernel)
theorem cd_X3_clear : Cond.code yX3_clear cX3_clear 1 none ∈ TG := tg 416 (by decide +kernel) (by decide +kernel)
theorem cd_X1_decayPoints : Cond.code yX1_decayPoints cX1_decayPoints 3 none ∈ TG := tg 420 (by decide +kernel) (by decide +kernel)
theorem cd_X1_growDirt : Cond.code yX1_growDirt cX1_growDirt 3 none ∈ TG := tg 424 (by decide +kernel) (by decide +kernel)
theorem cd_X4_propose : Cond.code yX4_propose cX4_propose 3 (some .int) ∈ TG := tg 428 (by decide +kernel) (by decide +kernel)
theorem cd_X1_canExchange : Cond.code yX1_canExchange cX1_canExchange 3 (some .boolean) ∈ TG := tg 432 (by decide +kernel) (by decide +kernel)
theorem cd_X1_isProposed : Cond.code yX1_isProposed cX1_isProposed 4 (some .boolean) ∈ TG := tg 436 (by decide +kernel) (by decide +kernel)
theorem cd_X1_addSwap : Cond.code yX1_addSwap cX1_addSwap 4 (some .int) ∈ TG := tg 440 (by decide +kernel) (by decide +kernel)
theorem cd_X4_answer : Cond.code yX4_answer cX4_answer 3 (some .int) ∈ TG := tg 444 (by decide +kernel) (by decide +kernel)
theorem cd_X1_acceptSwap : Cond.code yX1_acceptSwap cX1_acceptSwap 7 (some .int) ∈ TG := tg 448 (by decide +kernel) (by decide +kernel)
theorem cd_X1_gainOfExchange : Cond.code yX1_gainOfExchange cX1_gainOfExchange 3 (some .int) ∈ TG := tg 452 (by decide +kernel) (by decide +kernel)
theorem cd_X1_declineSwap : Cond.code yX1_declineSwap cX1_declineSwap 2 (some .int) ∈ TG := tg 456 (by decide +kernel) (by decide +kernel)
theorem cd_X4_about : Cond.code yX4_about cX4_about 3 (some .int) ∈ TG := tg 460 (by decide +kernel) (by decide +kernel)
theorem cd_X1_rateOf : Cond.code yX1_rateOf cX1_rateOf 4 (some .int) ∈ TG := tg 465 (by decide +kernel) (by decide +kernel)
theorem cd_X1_countOpenTasksOf : Cond.code yX1_countOpenTasksOf cX1_countOpenTasksOf 4 (some .int) ∈ TG := tg 469 (by decide +kernel) (by decide +kernel)
theorem cd_X1_isOpenTaskOf : Cond.code yX1_isOpenTaskOf cX1_isOpenTaskOf 3 (some .boolean) ∈ TG := tg 473 (by decide +kernel) (by decide +kernel)
theorem cd_X1_firstOpenTaskOf : Cond.code yX1_firstOpenTaskOf cX1_firstOpenTaskOf 3 (some .int) ∈ TG := tg 477 (by decide +kernel) (by decide +kernel)
theorem cd_X4_room : Cond.code yX4_room cX4_room 3 (some .int) ∈ TG := tg 481 (by decide +kernel) (by decide +kernel)
theorem cd_X4_task : Cond.code yX4_task cX4_task 3 (some .int) ∈ TG := tg 487 (by decide +kernel) (by decide +kernel)
theorem cd_X4_swap : Cond.code yX4_swap cX4_swap 5 (some .int) ∈ TG := tg 491 (by decide +kernel) (by decide +kernel)
theorem cd_X4_count : Cond.code yX4_count cX4_count 2 (some .int) ∈ TG := tg 495 (by decide +kernel) (by decide +kernel)
theorem cd_X1_spread : Cond.code yX1_spread cX1_spread 1 (some .int) ∈ TG := tg 501 (by decide +kernel) (by decide +kernel)
theorem cd_X1_spreadOf : Cond.code yX1_spreadOf cX1_spreadOf 11 (some .int) ∈ TG := tg 505 (by decide +kernel) (by decide +kernel)
theorem cd_X1_plannedSpread : Cond.code yX1_plannedSpread cX1_plannedSpread 1 (some .int) ∈ TG := tg 512 (by decide +kernel) (by decide +kernel)
theorem cd_X4_forecast : Cond.code yX4_forecast cX4_forecast 5 (some .int) ∈ TG := tg 516 (by decide +kernel) (by decide +kernel)
theorem cd_X1_countOpenDeepTasks : Cond.code yX1_countOpenDeepTasks cX1_countOpenDeepTasks 3 (some .int) ∈ TG := tg 521 (by decide +kernel) (by decide +kernel)
theorem cd_X1_finishOpenTasks : Cond.code yX1_finishOpenTasks cX1_finishOpenTasks 1 none ∈ TG := tg 525 (by decide +kernel) (by decide +kernel)
theorem cd_X1_finishFromTo : Cond.code yX1_finishFromTo cX1_finishFromTo 4 none ∈ TG := tg 529 (by decide +kernel) (by decide +kernel)
theorem cd_X1_greatestDirt : Cond.code yX1_greatestDirt cX1_greatestDirt 3 (some .int) ∈ TG := tg 534 (by decide +kernel) (by decide +kernel)
theorem cd_X4_fairer : Cond.code yX4_fairer cX4_fairer 8 (some .int) ∈ TG := tg 538 (by decide +kernel) (by decide +kernel)
theorem cd_X1_spreadIfExchanged : Cond.code yX1_spreadIfExchanged cX1_spreadIfExchanged 5 (some .int) ∈ TG := tg 542 (by decide +kernel) (by decide +kernel)
theorem cd_X4_put : Cond.code yX4_put cX4_put 4 (some .int) ∈ TG := tg 546 (by decide +kernel) (by decide +kernel)
theorem cd_X2_countCharacters : Cond.code yX2_countCharacters cX2_countCharacters 7 (some .int) ∈ TG := tg 549 (by decide +kernel) (by decide +kernel)
theorem cd_X2_append : Cond.code yX2_append cX2_append 5 none ∈ TG := tg 555 (by decide +kernel) (by decide +kernel)
theorem cd_X4_wipe : Cond.code yX4_wipe cX4_wipe 2 (some .int) ∈ TG := tg 559 (by decide +kernel) (by decide +kernel)
theorem cd_X4_fault : Cond.code yX4_fault cX4_fault 1 (some .int) ∈ TG := tg 563 (by decide +kernel) (by decide +kernel)
theorem cd_X2_read : Cond.code yX2_read cX2_read 7 (some .int) ∈ TG := tg 567 (by decide +kernel) (by decide +kernel)
theorem cd_X2_endOfNumber : Cond.code yX2_endOfNumber cX2_endOfNumber 3 (some .int) ∈ TG := tg 572 (by decide +kernel) (by decide +kernel)
theorem cd_X2_isDigitAt : Cond.code yX2_isDigitAt cX2_isDigitAt 2 (some .boolean) ∈ TG := tg 576 (by decide +kernel) (by decide +kernel)
theorem cd_X2_characterAt : Cond.code yX2_characterAt cX2_characterAt 2 (some .int) ∈ TG := tg 580 (by decide +kernel) (by decide +kernel)
theorem cd_X2_numberIn : Cond.code yX2_numberIn cX2_numberIn 5 (some .int) ∈ TG := tg 584 (by decide +kernel) (by decide +kernel)
theorem cd_X2_addPart : Cond.code yX2_addPart cX2_addPart 4 none ∈ TG := tg 588 (by decide +kernel) (by decide +kernel)
theorem cd_X4_load : Cond.code yX4_load cX4_load 3 (some .int) ∈ TG := tg 594 (by decide +kernel) (by decide +kernel)
theorem cd_X4_undo : Cond.code yX4_undo cX4_undo 1 (some .int) ∈ TG := tg 599 (by decide +kernel) (by decide +kernel)
theorem cd_X0_restore : Cond.code yX0_restore cX0_restore 3 none ∈ TG := tg 603 (by decide +kernel) (by decide +kernel)
theorem cd_X5_init : Cond.code yX5_init cX5_init 1 none ∈ TG := tg 608 (by decide +kernel) (by decide +kernel)
theorem cd_X5_resident : Cond.code yX5_resident cX5_resident 3 (some .int) ∈ TG := tg 647 (by decide +kernel) (by decide +kernel)
theorem cd_X5_in : Cond.code yX5_in cX5_in 3 (some .boolean) ∈ TG := tg 650 (by decide +kernel) (by decide +kernel)
theorem cd_X5_keep : Cond.code yX5_keep cX5_keep 2 none ∈ TG := tg 654 (by decide +kernel) (by decide +kernel)
theorem cd_X5_lay : Cond.code yX5_lay cX5_lay 4 none ∈ TG := tg 658 (by decide +kernel) (by decide +kernel)
theorem cd_X5_weigh : Cond.code yX5_weigh cX5_weigh 4 (some .int) ∈ TG := tg 662 (by decide +kernel) (by decide +kernel)
theorem cd_X5_isResident : Cond.code yX5_isResident cX5_isResident 2 (some .boolean) ∈ TG := tg 666 (by decide +kernel) (by decide +kernel)
theorem cd_X5_of : Cond.code yX5_of cX5_of 3 (some .int) ∈ TG := tg 670 (by decide +kernel) (by decide +kernel)
theorem cd_X5_away : Cond.code yX5_away cX5_away 4 (some .int) ∈ TG := tg 674 (by decide +kernel) (by decide +kernel)
theorem cd_X5_isAway : Cond.code yX5_isAway cX5_isAway 2 (some .boolean) ∈ TG := tg 678 (by decide +kernel) (by decide +kernel)
theorem cd_X5_area : Cond.code yX5_area cX5_area 5 (some .int) ∈ TG := tg 682 (by decide +kernel) (by decide +kernel)
theorem cd_X5_layArea : Cond.code yX5_layArea cX5_layArea 4 none ∈ TG := tg 686 (by decide +kernel) (by decide +kernel)
theorem cd_X5_set : Cond.code yX5_set cX5_set 4 (some .int) ∈ TG := tg 690 (by decide +kernel) (by decide +kernel)
theorem cd_X5_takes : Cond.code yX5_takes cX5_takes 2 (some .boolean) ∈ TG := tg 693 (by decide +kernel) (by decide +kernel)
theorem cd_X5_setting : Cond.code yX5_setting cX5_setting 2 (some .int) ∈ TG := tg 697 (by decide +kernel) (by decide +kernel)
theorem cd_X5_plan : Cond.code yX5_plan cX5_plan 1 (some .int) ∈ TG := tg 701 (by decide +kernel) (by decide +kernel)
theorem cd_X5_makePlan : Cond.code yX5_makePlan cX5_makePlan 3 (some .int) ∈ TG := tg 705 (by decide +kernel) (by decide +kernel)
theorem cd_X5_bestFor : Cond.code yX5_bestFor cX5_bestFor 4 (some .int) ∈ TG := tg 709 (by decide +kernel) (by decide +kernel)
theorem cd_X5_isAhead : Cond.code yX5_isAhead cX5_isAhead 5 (some .boolean) ∈ TG := tg 713 (by decide +kernel) (by decide +kernel)
theorem cd_X5_loadOf : Cond.code yX5_loadOf cX5_loadOf 4 (some .int) ∈ TG := tg 717 (by decide +kernel) (by decide +kernel)
theorem cd_X5_ofTask : Cond.code yX5_ofTask cX5_ofTask 3 (some .int) ∈ TG := tg 721 (by decide +kernel) (by decide +kernel)
theorem cd_X5_needsDeep : Cond.code yX5_needsDeep cX5_needsDeep 2 (some .boolean) ∈ TG := tg 725 (by decide +kernel) (by decide +kernel)
theorem cd_X5_ofArea : Cond.code yX5_ofArea cX5_ofArea 3 (some .int) ∈ TG := tg 729 (by decide +kernel) (by decide +kernel)
theorem cd_X5_addTask : Cond.code yX5_addTask cX5_addTask 6 none ∈ TG := tg 733 (by decide +kernel) (by decide +kernel)
theorem cd_X5_layTask : Cond.code yX5_layTask cX5_layTask 4 none ∈ TG := tg 737 (by decide +kernel) (by decide +kernel)
theorem cd_X5_isDue : Cond.code yX5_isDue cX5_isDue 2 (some .boolean) ∈ TG := tg 741 (by decide +kernel) (by decide +kernel)
theorem cd_X5_partnerOf : Cond.code yX5_partnerOf cX5_partnerOf 5 (some .int) ∈ TG := tg 745 (by decide +kernel) (by decide +kernel)
theorem cd_X5_done : Cond.code yX5_done cX5_done 2 (some .int) ∈ TG := tg 749 (by decide +kernel) (by decide +kernel)
theorem cd_X5_isTask : Cond.code yX5_isTask cX5_isTask 2 (some .boolean) ∈ TG := tg 753 (by decide +kernel) (by decide +kernel)
theorem cd_X5_finish : Cond.code yX5_finish cX5_finish 3 (some .int) ∈ TG := tg 757 (by decide +kernel) (by decide +kernel)
theorem cd_X5_isLastOf : Cond.code yX5_isLastOf cX5_isLastOf 4 (some .boolean) ∈ TG := tg 761 (by decide +kernel) (by decide +kernel)
theorem cd_X5_clean : Cond.code yX5_clean cX5_clean 2 none ∈ TG := tg 765 (by decide +kernel) (by decide +kernel)
theorem cd_X5_dropSwaps : Cond.code yX5_dropSwaps cX5_dropSwaps 3 none ∈ TG := tg 769 (by decide +kernel) (by decide +kernel)
theorem cd_X5_ofSwap : Cond.code yX5_ofSwap cX5_ofSwap 3 (some .int) ∈ TG := tg 773 (by decide +kernel) (by decide +kernel)
theorem cd_X5_removeSwap : Cond.code yX5_removeSwap cX5_removeSwap 3 none ∈ TG := tg 777 (by decide +kernel) (by decide +kernel)
theorem cd_X5_extra : Cond.code yX5_extra cX5_extra 4 (some .int) ∈ TG := tg 781 (by decide +kernel) (by decide +kernel)
theorem cd_X5_isArea : Cond.code yX5_isArea cX5_isArea 2 (some .boolean) ∈ TG := tg 785 (by decide +kernel) (by decide +kernel)
theorem cd_X5_end : Cond.code yX5_end cX5_end 1 (some .int) ∈ TG := tg 789 (by decide +kernel) (by decide +kernel)
theorem cd_X5_makeEnd : Cond.code yX5_makeEnd cX5_makeEnd 4 (some .int) ∈ TG := tg 793 (by decide +kernel) (by decide +kernel)
theorem cd_X5_propose : Cond.code yX5_propose cX5_propose 4 (some .int) ∈ TG := tg 797 (by decide +kernel) (by decide +kernel)
theorem cd_X5_isProposed : Cond.code yX5_isProposed cX5_isProposed 5 (some .boolean) ∈ TG := tg 801 (by decide +kernel) (by decide +kernel)
theorem cd_X5_answer : Cond.code yX5_answer cX5_answer 5 (some .int) ∈ TG := tg 805 (by decide +kernel) (by decide +kernel)
theorem cd_X5_exchange : Cond.code yX5_exchange cX5_exchange 4 none ∈ TG := tg 809 (by decide +kernel) (by decide +kernel)
theorem cd_X5_about : Cond.code yX5_about cX5_about 3 (some .int) ∈ TG := tg 813 (by decide +kernel) (by decide +kernel)
theorem cd_X5_openOf : Cond.code yX5_openOf cX5_openOf 5 (some .int) ∈ TG := tg 817 (by decide +kernel) (by decide +kernel)
theorem cd_X5_room : Cond.code yX5_room cX5_room 3 (some .int) ∈ TG := tg 821 (by decide +kernel) (by decide +kernel)
theorem cd_X5_task : Cond.code yX5_task cX5_task 3 (some .int) ∈ TG := tg 825 (by decide +kernel) (by decide +kernel)
theorem cd_X5_swap : Cond.code yX5_swap cX5_swap 3 (some .int) ∈ TG := tg 829 (by decide +kernel) (by decide +kernel)
theorem cd_X5_count : Cond.code yX5_count cX5_count 2 (some .int) ∈ TG := tg 833 (by decide +kernel) (by decide +kernel)
theorem cd_X5_openTasks : Cond.code yX5_openTasks cX5_openTasks 3 (some .int) ∈ TG := tg 837 (by decide +kernel) (by decide +kernel)
theorem cd_X5_spread : Cond.code yX5_spread cX5_spread 6 (some .int) ∈ TG := tg 841 (by decide +kernel) (by decide +kernel)
theorem cd_X5_forecast : Cond.code yX5_forecast cX5_forecast 8 (some .int) ∈ TG := tg 845 (by decide +kernel) (by decide +kernel)
theorem cd_X5_putAside : Cond.code yX5_putAside cX5_putAside 2 none ∈ TG := tg 849 (by decide +kernel) (by decide +kernel)
theorem cd_X5_foulest : Cond.code yX5_foulest cX5_foulest 3 (some .int) ∈ TG := tg 853 (by decide +kernel) (by decide +kernel)
theorem cd_X5_putBack : Cond.code yX5_putBack cX5_putBack 2 none ∈ TG := tg 857 (by decide +kernel) (by decide +kernel)
theorem cd_X5_fairer : Cond.code yX5_fairer cX5_fairer 9 (some .int) ∈ TG := tg 861 (by decide +kernel) (by decide +kernel)
theorem cd_X5_put : Cond.code yX5_put cX5_put 7 (some .int) ∈ TG := tg 865 (by decide +kernel) (by decide +kernel)
theorem cd_X5_wipe : Cond.code yX5_wipe cX5_wipe 2 (some .int) ∈ TG := tg 870 (by decide +kernel) (by decide +kernel)
theorem cd_X5_fault : Cond.code yX5_fault cX5_fault 1 (some .int) ∈ TG := tg 874 (by decide +kernel) (by decide +kernel)
theorem cd_X5_takePart : Cond.code yX5_takePart cX5_takePart 4 none ∈ TG := tg 878 (by decide +kernel) (by decide +kernel)
theorem cd_X5_takeNumber : Cond.code yX5_takeNumber cX5_takeNumber 2 (some .int) ∈ TG := tg 882 (by decide +kernel) (by decide +kernel)
theorem cd_X5_next : Cond.code yX5_next cX5_next 1 (some .int) ∈ TG := tg 886 (by decide +kernel) (by decide +kernel)
theorem cd_X5_load : Cond.code yX5_load cX5_load 4 (some .int) ∈ TG := tg 890 (by decide +kernel) (by decide +kernel)
theorem cd_X5_undo : Cond.code yX5_undo cX5_undo 2 (some .int) ∈ TG := tg 895 (by decide +kernel) (by decide +kernel)
theorem il_RL_9 : ILink RL 9 yX4_init := ⟨tg 72 (by decide +kernel) (by decide +kernel), tg 73 (by decide +kernel) (by decide +kernel), tg 62 (by decide +kernel) (by decide +kernel)⟩
theorem ol_RX4_1 : Cond.methodLink RX4 1 objectInit ∈ TG := tg 75 (by decide +kernel) (by decide +kernel)
theorem il_RX4_9 : ILink RX4 9 yX1_init := ⟨tg 80 (by decide +kernel) (by decide +kernel), tg 81 (by decide +kernel) (by decide +kernel), tg 63 (by decide +kernel) (by decide +kernel)⟩
theorem ol_RX1_5 : Cond.methodLink RX1 5 objectInit ∈ TG := tg 83 (by decide +kernel) (by decide +kernel)
theorem il_RX1_13 : ILink RX1 13 yX3_init := ⟨tg 86 (by decide +kernel) (by decide +kernel), tg 87 (by decide +kernel) (by decide +kernel), tg 64 (by decide +kernel) (by decide +kernel)⟩
theorem ol_RX3_3 : Cond.methodLink RX3 3 objectInit ∈ TG := tg 89 (by decide +kernel) (by decide +kernel)
theorem jl_RX3_18 : Cond.methodLink RX3 18 Lib.Math.max.name ∈ TG := tg 90 (by decide +kernel) (by decide +kernel)
theorem vl_RX1_32 : VLink RX1 32 yX3_append := ⟨tg 107 (by decide +kernel) (by decide +kernel), tg 108 (by decide +kernel) (by decide +kernel), tg 109 (by decide +kernel) (by decide +kernel), tg 64 (by decide +kernel) (by decide +kernel)⟩
theorem vl_RX3_38 : VLink RX3 38 yX3_isFull := ⟨tg 111 (by decide +kernel) (by decide +kernel), tg 112 (by decide +kernel) (by decide +kernel), tg 113 (by decide +kernel) (by decide +kernel), tg 64 (by decide +kernel) (by decide +kernel)⟩
theorem vl_RX3_34 : VLink RX3 34 yX3_write := ⟨tg 115 (by decide +kernel) (by decide +kernel), tg 116 (by decide +kernel) (by decide +kernel), tg 117 (by decide +kernel) (by decide +kernel), tg 64 (by decide +kernel) (by decide +kernel)⟩
theorem vl_RX1_36 : VLink RX1 36 yX3_write := ⟨tg 119 (by decide +kernel) (by decide +kernel), tg 116 (by decide +kernel) (by decide +kernel), tg 117 (by decide +kernel) (by decide +kernel), tg 64 (by decide +kernel) (by decide +kernel)⟩
theorem il_RX4_21 : ILink RX4 21 yX0_init := ⟨tg 159 (by decide +kernel) (by decide +kernel), tg 160 (by decide +kernel) (by decide +kernel), tg 66 (by decide +kernel) (by decide +kernel)⟩
theorem ol_RX0_1 : Cond.methodLink RX0 1 objectInit ∈ TG := tg 162 (by decide +kernel) (by decide +kernel)
theorem il_RX0_15 : ILink RX0 15 yX1_init := ⟨tg 165 (by decide +kernel) (by decide +kernel), tg 81 (by decide +kernel) (by decide +kernel), tg 63 (by decide +kernel) (by decide +kernel)⟩
theorem il_RX4_28 : ILink RX4 28 yX2_init := ⟨tg 176 (by decide +kernel) (by decide +kernel), tg 177 (by decide +kernel) (by decide +kernel), tg 67 (by decide +kernel) (by decide +kernel)⟩
theorem ol_RX2_3 : Cond.methodLink RX2 3 objectInit ∈ TG := tg 179 (by decide +kernel) (by decide +kernel)
theorem il_RX2_17 : ILink RX2 17 yX3_init := ⟨tg 181 (by decide +kernel) (by decide +kernel), tg 87 (by decide +kernel) (by decide +kernel), tg 64 (by decide +kernel) (by decide +kernel)⟩
theorem vl_RL_13 : VLink RL 13 yX4_resident := ⟨tg 208 (by decide +kernel) (by decide +kernel), tg 209 (by decide +kernel) (by decide +kernel), tg 210 (by decide +kernel) (by decide +kernel), tg 62 (by decide +kernel) (by decide +kernel)⟩
theorem sl_RX4_33 : SLink RX4 33 yX4_isWeight := ⟨tg 212 (by decide +kernel) (by decide +kernel), tg 213 (by decide +kernel) (by decide +kernel), tg 62 (by decide +kernel) (by decide +kernel)⟩
theorem sl_RX4_62 : SLink RX4 62 yX4_isIn := ⟨tg 215 (by decide +kernel) (by decide +kernel), tg 216 (by decide +kernel) (by decide +kernel), tg 62 (by decide +kernel) (by decide +kernel)⟩
theorem vl_RX4_41 : VLink RX4 41 yX3_isFull := ⟨tg 218 (by decide +kernel) (by decide +kernel), tg 112 (by decide +kernel) (by decide +kernel), tg 113 (by decide +kernel) (by decide +kernel), tg 64 (by decide +kernel) (by decide +kernel)⟩
theorem vl_RX4_47 : VLink RX4 47 yX0_keep := ⟨tg 219 (by decide +kernel) (by decide +kernel), tg 220 (by decide +kernel) (by decide +kernel), tg 221 (by decide +kernel) (by decide +kernel), tg 66 (by decide +kernel) (by decide +kernel)⟩
theorem vl_RX0_20 : VLink RX0 20 yX0_dropOldest := ⟨tg 223 (by decide +kernel) (by decide +kernel), tg 225 (by decide +kernel) (by decide +kernel), tg 0 (by decide +kernel) (by decide +kernel), tg 66 (by decide +kernel) (by decide +kernel)⟩
theorem vl_RX0_23 : VLink RX0 23 yX0_stateAt := ⟨tg 227 (by decide +kernel) (by decide +kernel), tg 229 (by decide +kernel) (by decide +kernel), tg 1 (by decide +kernel) (by decide +kernel), tg 66 (by decide +kernel) (by decide +kernel)⟩
theorem vl_RX0_27 : VLink RX0 27 yX1_copyFrom := ⟨tg 231 (by decide +kernel) (by decide +kernel), tg 232 (by decide +kernel) (by decide +kernel), tg 233 (by decide +kernel) (by decide +kernel), tg 63 (by decide +kernel) (by decide +kernel)⟩
theorem vl_RX1_40 : VLink RX1 40 yX3_copyFrom := ⟨tg 235 (by decide +kernel) (by decide +kernel), tg 236 (by decide +kernel) (by decide +kernel), tg 237 (by decide +kernel) (by decide +kernel), tg 64 (by decide +kernel) (by decide +kernel)⟩
theorem jl_RX3_46 : Cond.methodLink RX3 46 Lib.Math.min.name ∈ TG := tg 239 (by decide +kernel) (by decide +kernel)
theorem jl_RX3_49 : Cond.methodLink RX3 49 arraycopyName ∈ TG := tg 242 (by decide +kernel) (by decide +kernel)
theorem vl_RX4_51 : VLink RX4 51 yX1_addResident := ⟨tg 245 (by decide +kernel) (by decide +kernel), tg 246 (by decide +kernel) (by decide +kernel), tg 247 (by decide +kernel) (by decide +kernel), tg 63 (by decide +kernel) (by decide +kernel)⟩
theorem vl_RL_18 : VLink RL 18 yX4_weigh := ⟨tg 249 (by decide +kernel) (by decide +kernel), tg 250 (by decide +kernel) (by decide +kernel), tg 251 (by decide +kernel) (by decide +kernel), tg 62 (by decide +kernel) (by decide +kernel)⟩
theorem vl_RX4_55 : VLink RX4 55 yX3_has := ⟨tg 253 (by decide +kernel) (by decide +kernel), tg 254 (by decide +kernel) (by decide +kernel), tg 255 (by decide +kernel) (by decide +kernel), tg 64 (by decide +kernel) (by decide +kernel)⟩
theorem vl_RX4_58 : VLink RX4 58 yX3_exchange := ⟨tg 257 (by decide +kernel) (by decide +kernel), tg 258 (by decide +kernel) (by decide +kernel), tg 259 (by decide +kernel) (by decide +kernel), tg 64 (by decide +kernel) (by decide +kernel)⟩
theorem vl_RX3_31 : VLink RX3 31 yX3_cell := ⟨tg 261 (by decide +kernel) (by decide +kernel), tg 262 (by decide +kernel) (by decide +kernel), tg 263 (by decide +kernel) (by decide +kernel), tg 64 (by decide +kernel) (by decide +kernel)⟩
theorem vl_RL_23 : VLink RL 23 yX4_away := ⟨tg 265 (by decide +kernel) (by decide +kernel), tg 266 (by decide +kernel) (by decide +kernel), tg 267 (by decide +kernel) (by decide +kernel), tg 62 (by decide +kernel) (by decide +kernel)⟩
theorem vl_RX4_66 : VLink RX4 66 yX3_write := ⟨tg 269 (by decide +kernel) (by decide +kernel), tg 116 (by decide +kernel) (by decide +kernel), tg 117 (by decide +kernel) (by decide +kernel), tg 64 (by decide +kernel) (by decide +kernel)⟩
theorem vl_RX4_70 : VLink RX4 70 yX1_isAway := ⟨tg 270 (by decide +kernel) (by decide +kernel), tg 271 (by decide +kernel) (by decide +kernel), tg 272 (by decide +kernel) (by decide +kernel), tg 63 (by decide +kernel) (by decide +kernel)⟩
theorem vl_RX1_58 : VLink RX1 58 yX3_cell := ⟨tg 274 (by decide +kernel) (by decide +kernel), tg 262 (by decide +kernel) (by decide +kernel), tg 263 (by decide +kernel) (by decide +kernel), tg 64 (by decide +kernel) (by decide +kernel)⟩
theorem sl_RX4_73 : SLink RX4 73 yX4_bit := ⟨tg 276 (by decide +kernel) (by decide +kernel), tg 277 (by decide +kernel) (by decide +kernel), tg 62 (by decide +kernel) (by decide +kernel)⟩
theorem vl_RL_28 : VLink RL 28 yX4_area := ⟨tg 279 (by decide +kernel) (by decide +kernel), tg 280 (by decide +kernel) (by decide +kernel), tg 281 (by decide +kernel) (by decide +kernel), tg 62 (by decide +kernel) (by decide +kernel)⟩
theorem vl_RX4_80 : VLink RX4 80 yX1_addArea := ⟨tg 283 (by decide +kernel) (by decide +kernel), tg 284 (by decide +kernel) (by decide +kernel), tg 285 (by decide +kernel) (by decide +kernel), tg 63 (by decide +kernel) (by decide +kernel)⟩
theorem vl_RL_32 : VLink RL 32 yX4_set := ⟨tg 287 (by decide +kernel) (by decide +kernel), tg 288 (by decide +kernel) (by decide +kernel), tg 289 (by decide +kernel) (by decide +kernel), tg 62 (by decide +kernel) (by decide +kernel)⟩
theorem sl_RX4_83 : SLink RX4 83 yX4_isSettingValue := ⟨tg 291 (by decide +kernel) (by decide +kernel), tg 292 (by decide +kernel) (by decide +kernel), tg 62 (by decide +kernel) (by decide +kernel)⟩
theorem vl_RL_36 : VLink RL 36 yX4_plan := ⟨tg 294 (by decide +kernel) (by decide +kernel), tg 295 (by decide +kernel) (by decide +kernel), tg 296 (by decide +kernel) (by decide +kernel), tg 62 (by decide +kernel) (by decide +kernel)⟩
theorem vl_RX4_94 : VLink RX4 94 yX1_planWeek := ⟨tg 298 (by decide +kernel) (by decide +kernel), tg 299 (by decide +kernel) (by decide +kernel), tg 300 (by decide +kernel) (by decide +kernel), tg 63 (by decide +kernel) (by decide +kernel)⟩
theorem vl_RX1_77 : VLink RX1 77 yX1_leastLoaded := ⟨tg 302 (by decide +kernel) (by decide +kernel), tg 304 (by decide +kernel) (by decide +kernel), tg 2 (by decide +kernel) (by decide +kernel), tg 63 (by decide +kernel) (by decide +kernel)⟩
theorem vl_RX1_66 : VLink RX1 66 yX3_size := ⟨tg 306 (by decide +kernel) (by decide +kernel), tg 307 (by decide +kernel) (by decide +kernel), tg 308 (by decide +kernel) (by decide +kernel), tg 64 (by decide +kernel) (by decide +kernel)⟩
theorem vl_RX1_111 : VLink RX1 111 yX1_isAway := ⟨tg 310 (by decide +kernel) (by decide +kernel), tg 271 (by decide +kernel) (by decide +kernel), tg 272 (by decide +kernel) (by decide +kernel), tg 63 (by decide +kernel) (by decide +kernel)⟩
theorem vl_RX1_114 : VLink RX1 114 yX1_goesAhead := ⟨tg 311 (by decide +kernel) (by decide +kernel), tg 313 (by decide +kernel) (by decide +kernel), tg 3 (by decide +kernel) (by decide +kernel), tg 63 (by decide +kernel) (by decide +kernel)⟩
theorem vl_RX1_118 : VLink RX1 118 yX1_loadOf := ⟨tg 315 (by decide +kernel) (by decide +kernel), tg 316 (by decide +kernel) (by decide +kernel), tg 317 (by decide +kernel) (by decide +kernel), tg 63 (by decide +kernel) (by decide +kernel)⟩
theorem vl_RX1_81 : VLink RX1 81 yX1_makeTasks := ⟨tg 319 (by decide +kernel) (by decide +kernel), tg 321 (by decide +kernel) (by decide +kernel), tg 4 (by decide +kernel) (by decide +kernel), tg 63 (by decide +kernel) (by decide +kernel)⟩
theorem vl_RX1_87 : VLink RX1 87 yX1_areaOfNextTask := ⟨tg 323 (by decide +kernel) (by decide +kernel), tg 325 (by decide +kernel) (by decide +kernel), tg 5 (by decide +kernel) (by decide +kernel), tg 63 (by decide +kernel) (by decide +kernel)⟩
theorem vl_RX1_90 : VLink RX1 90 yX1_effortOfTask := ⟨tg 327 (by decide +kernel) (by decide +kernel), tg 329 (by decide +kernel) (by decide +kernel), tg 6 (by decide +kernel) (by decide +kernel), tg 63 (by decide +kernel) (by decide +kernel)⟩
theorem vl_RX1_93 : VLink RX1 93 yX1_needsDeepClean := ⟨tg 331 (by decide +kernel) (by decide +kernel), tg 332 (by decide +kernel) (by decide +kernel), tg 333 (by decide +kernel) (by decide +kernel), tg 63 (by decide +kernel) (by decide +kernel)⟩
theorem vl_RX1_101 : VLink RX1 101 yX1_isDue := ⟨tg 335 (by decide +kernel) (by decide +kernel), tg 336 (by decide +kernel) (by decide +kernel), tg 337 (by decide +kernel) (by decide +kernel), tg 63 (by decide +kernel) (by decide +kernel)⟩
theorem vl_RX1_97 : VLink RX1 97 yX1_addTask := ⟨tg 339 (by decide +kernel) (by decide +kernel), tg 341 (by decide +kernel) (by decide +kernel), tg 7 (by decide +kernel) (by decide +kernel), tg 63 (by decide +kernel) (by decide +kernel)⟩
theorem vl_RX1_84 : VLink RX1 84 yX1_giveTasks := ⟨tg 344 (by decide +kernel) (by decide +kernel), tg 346 (by decide +kernel) (by decide +kernel), tg 8 (by decide +kernel) (by decide +kernel), tg 63 (by decide +kernel) (by decide +kernel)⟩
theorem vl_RX1_108 : VLink RX1 108 yX1_hasTwinAhead := ⟨tg 348 (by decide +kernel) (by decide +kernel), tg 350 (by decide +kernel) (by decide +kernel), tg 9 (by decide +kernel) (by decide +kernel), tg 63 (by decide +kernel) (by decide +kernel)⟩
theorem vl_RX1_74 : VLink RX1 74 yX3_increase := ⟨tg 352 (by decide +kernel) (by decide +kernel), tg 353 (by decide +kernel) (by decide +kernel), tg 354 (by decide +kernel) (by decide +kernel), tg 64 (by decide +kernel) (by decide +kernel)⟩
theorem vl_RL_41 : VLink RL 41 yX4_done := ⟨tg 356 (by decide +kernel) (by decide +kernel), tg 357 (by decide +kernel) (by decide +kernel), tg 358 (by decide +kernel) (by decide +kernel), tg 62 (by decide +kernel) (by decide +kernel)⟩
theorem vl_RX4_101 : VLink RX4 101 yX1_isOpen := ⟨tg 360 (by decide +kernel) (by decide +kernel), tg 361 (by decide +kernel) (by decide +kernel), tg 362 (by decide +kernel) (by decide +kernel), tg 63 (by decide +kernel) (by decide +kernel)⟩
theorem vl_RX1_121 : VLink RX1 121 yX3_has := ⟨tg 364 (by decide +kernel) (by decide +kernel), tg 254 (by decide +kernel) (by decide +kernel), tg 255 (by decide +kernel) (by decide +kernel), tg 64 (by decide +kernel) (by decide +kernel)⟩
theorem vl_RX4_104 : VLink RX4 104 yX1_finish := ⟨tg 365 (by decide +kernel) (by decide +kernel), tg 366 (by decide +kernel) (by decide +kernel), tg 367 (by decide +kernel) (by decide +kernel), tg 63 (by decide +kernel) (by decide +kernel)⟩
theorem vl_RX1_130 : VLink RX1 130 yX1_isTwinOpen := ⟨tg 369 (by decide +kernel) (by decide +kernel), tg 371 (by decide +kernel) (by decide +kernel), tg 10 (by decide +kernel) (by decide +kernel), tg 63 (by decide +kernel) (by decide +kernel)⟩
theorem vl_RX1_124 : VLink RX1 124 yX1_isOpen := ⟨tg 373 (by decide +kernel) (by decide +kernel), tg 361 (by decide +kernel) (by decide +kernel), tg 362 (by decide +kernel) (by decide +kernel), tg 63 (by decide +kernel) (by decide +kernel)⟩
theorem vl_RX1_133 : VLink RX1 133 yX1_clean := ⟨tg 374 (by decide +kernel) (by decide +kernel), tg 376 (by decide +kernel) (by decide +kernel), tg 11 (by decide +kernel) (by decide +kernel), tg 63 (by decide +kernel) (by decide +kernel)⟩
theorem vl_RX1_137 : VLink RX1 137 yX1_dropSwapsWith := ⟨tg 378 (by decide +kernel) (by decide +kernel), tg 380 (by decide +kernel) (by decide +kernel), tg 12 (by decide +kernel) (by decide +kernel), tg 63 (by decide +kernel) (by decide +kernel)⟩
theorem vl_RX1_164 : VLink RX1 164 yX3_remove := ⟨tg 382 (by decide +kernel) (by decide +kernel), tg 383 (by decide +kernel) (by decide +kernel), tg 384 (by decide +kernel) (by decide +kernel), tg 64 (by decide +kernel) (by decide +kernel)⟩
theorem vl_RX3_42 : VLink RX3 42 yX3_has := ⟨tg 386 (by decide +kernel) (by decide +kernel), tg 254 (by decide +kernel) (by decide +kernel), tg 255 (by decide +kernel) (by decide +kernel), tg 64 (by decide +kernel) (by decide +kernel)⟩
theorem vl_RL_45 : VLink RL 45 yX4_extra := ⟨tg 387 (by decide +kernel) (by decide +kernel), tg 388 (by decide +kernel) (by decide +kernel), tg 389 (by decide +kernel) (by decide +kernel), tg 62 (by decide +kernel) (by decide +kernel)⟩
theorem vl_RX4_107 : VLink RX4 107 yX3_cell := ⟨tg 391 (by decide +kernel) (by decide +kernel), tg 262 (by decide +kernel) (by decide +kernel), tg 263 (by decide +kernel) (by decide +kernel), tg 64 (by decide +kernel) (by decide +kernel)⟩
theorem vl_RX4_111 : VLink RX4 111 yX1_payDebt := ⟨tg 392 (by decide +kernel) (by decide +kernel), tg 393 (by decide +kernel) (by decide +kernel), tg 394 (by decide +kernel) (by decide +kernel), tg 63 (by decide +kernel) (by decide +kernel)⟩
theorem jl_RX1_146 : Cond.methodLink RX1 146 Lib.Math.min.name ∈ TG := tg 396 (by decide +kernel) (by decide +kernel)
theorem vl_RL_49 : VLink RL 49 yX4_end := ⟨tg 397 (by decide +kernel) (by decide +kernel), tg 398 (by decide +kernel) (by decide +kernel), tg 399 (by decide +kernel) (by decide +kernel), tg 62 (by decide +kernel) (by decide +kernel)⟩
theorem vl_RX4_118 : VLink RX4 118 yX1_endWeek := ⟨tg 401 (by decide +kernel) (by decide +kernel), tg 402 (by decide +kernel) (by decide +kernel), tg 403 (by decide +kernel) (by decide +kernel), tg 63 (by decide +kernel) (by decide +kernel)⟩
theorem vl_RX1_149 : VLink RX1 149 yX1_countOpenTasks := ⟨tg 405 (by decide +kernel) (by decide +kernel), tg 406 (by decide +kernel) (by decide +kernel), tg 407 (by decide +kernel) (by decide +kernel), tg 63 (by decide +kernel) (by decide +kernel)⟩
theorem vl_RX1_152 : VLink RX1 152 yX1_skip := ⟨tg 409 (by decide +kernel) (by decide +kernel), tg 411 (by decide +kernel) (by decide +kernel), tg 13 (by decide +kernel) (by decide +kernel), tg 63 (by decide +kernel) (by decide +kernel)⟩
theorem vl_RX1_155 : VLink RX1 155 yX3_clear := ⟨tg 413 (by decide +kernel) (by decide +kernel), tg 414 (by decide +kernel) (by decide +kernel), tg 415 (by decide +kernel) (by decide +kernel), tg 64 (by decide +kernel) (by decide +kernel)⟩
theorem vl_RX1_158 : VLink RX1 158 yX1_decayPoints := ⟨tg 417 (by decide +kernel) (by decide +kernel), tg 419 (by decide +kernel) (by decide +kernel), tg 14 (by decide +kernel) (by decide +kernel), tg 63 (by decide +kernel) (by decide +kernel)⟩
theorem vl_RX1_161 : VLink RX1 161 yX1_growDirt := ⟨tg 421 (by decide +kernel) (by decide +kernel), tg 423 (by decide +kernel) (by decide +kernel), tg 15 (by decide +kernel) (by decide +kernel), tg 63 (by decide +kernel) (by decide +kernel)⟩
theorem vl_RL_53 : VLink RL 53 yX4_propose := ⟨tg 425 (by decide +kernel) (by decide +kernel), tg 426 (by decide +kernel) (by decide +kernel), tg 427 (by decide +kernel) (by decide +kernel), tg 62 (by decide +kernel) (by decide +kernel)⟩
theorem vl_RX4_121 : VLink RX4 121 yX1_canExchange := ⟨tg 429 (by decide +kernel) (by decide +kernel), tg 430 (by decide +kernel) (by decide +kernel), tg 431 (by decide +kernel) (by decide +kernel), tg 63 (by decide +kernel) (by decide +kernel)⟩
theorem vl_RX4_124 : VLink RX4 124 yX1_isProposed := ⟨tg 433 (by decide +kernel) (by decide +kernel), tg 434 (by decide +kernel) (by decide +kernel), tg 435 (by decide +kernel) (by decide +kernel), tg 63 (by decide +kernel) (by decide +kernel)⟩
theorem vl_RX4_130 : VLink RX4 130 yX1_addSwap := ⟨tg 437 (by decide +kernel) (by decide +kernel), tg 438 (by decide +kernel) (by decide +kernel), tg 439 (by decide +kernel) (by decide +kernel), tg 63 (by decide +kernel) (by decide +kernel)⟩
theorem vl_RL_57 : VLink RL 57 yX4_answer := ⟨tg 441 (by decide +kernel) (by decide +kernel), tg 442 (by decide +kernel) (by decide +kernel), tg 443 (by decide +kernel) (by decide +kernel), tg 62 (by decide +kernel) (by decide +kernel)⟩
theorem vl_RX4_133 : VLink RX4 133 yX1_acceptSwap := ⟨tg 445 (by decide +kernel) (by decide +kernel), tg 446 (by decide +kernel) (by decide +kernel), tg 447 (by decide +kernel) (by decide +kernel), tg 63 (by decide +kernel) (by decide +kernel)⟩
theorem vl_RX1_167 : VLink RX1 167 yX1_gainOfExchange := ⟨tg 449 (by decide +kernel) (by decide +kernel), tg 451 (by decide +kernel) (by decide +kernel), tg 16 (by decide +kernel) (by decide +kernel), tg 63 (by decide +kernel) (by decide +kernel)⟩
theorem vl_RX4_136 : VLink RX4 136 yX1_declineSwap := ⟨tg 453 (by decide +kernel) (by decide +kernel), tg 454 (by decide +kernel) (by decide +kernel), tg 455 (by decide +kernel) (by decide +kernel), tg 63 (by decide +kernel) (by decide +kernel)⟩
theorem vl_RL_61 : VLink RL 61 yX4_about := ⟨tg 457 (by decide +kernel) (by decide +kernel), tg 458 (by decide +kernel) (by decide +kernel), tg 459 (by decide +kernel) (by decide +kernel), tg 62 (by decide +kernel) (by decide +kernel)⟩
theorem vl_RX4_139 : VLink RX4 139 yX1_loadOf := ⟨tg 461 (by decide +kernel) (by decide +kernel), tg 316 (by decide +kernel) (by decide +kernel), tg 317 (by decide +kernel) (by decide +kernel), tg 63 (by decide +kernel) (by decide +kernel)⟩
theorem vl_RX4_142 : VLink RX4 142 yX1_rateOf := ⟨tg 462 (by decide +kernel) (by decide +kernel), tg 463 (by decide +kernel) (by decide +kernel), tg 464 (by decide +kernel) (by decide +kernel), tg 63 (by decide +kernel) (by decide +kernel)⟩
theorem vl_RX4_145 : VLink RX4 145 yX1_countOpenTasksOf := ⟨tg 466 (by decide +kernel) (by decide +kernel), tg 467 (by decide +kernel) (by decide +kernel), tg 468 (by decide +kernel) (by decide +kernel), tg 63 (by decide +kernel) (by decide +kernel)⟩
theorem vl_RX1_127 : VLink RX1 127 yX1_isOpenTaskOf := ⟨tg 470 (by decide +kernel) (by decide +kernel), tg 471 (by decide +kernel) (by decide +kernel), tg 472 (by decide +kernel) (by decide +kernel), tg 63 (by decide +kernel) (by decide +kernel)⟩
theorem vl_RX4_148 : VLink RX4 148 yX1_firstOpenTaskOf := ⟨tg 474 (by decide +kernel) (by decide +kernel), tg 475 (by decide +kernel) (by decide +kernel), tg 476 (by decide +kernel) (by decide +kernel), tg 63 (by decide +kernel) (by decide +kernel)⟩
theorem vl_RL_65 : VLink RL 65 yX4_room := ⟨tg 478 (by decide +kernel) (by decide +kernel), tg 479 (by decide +kernel) (by decide +kernel), tg 480 (by decide +kernel) (by decide +kernel), tg 62 (by decide +kernel) (by decide +kernel)⟩
theorem vl_RX4_151 : VLink RX4 151 yX1_needsDeepClean := ⟨tg 482 (by decide +kernel) (by decide +kernel), tg 332 (by decide +kernel) (by decide +kernel), tg 333 (by decide +kernel) (by decide +kernel), tg 63 (by decide +kernel) (by decide +kernel)⟩
theorem vl_RX4_154 : VLink RX4 154 yX1_isDue := ⟨tg 483 (by decide +kernel) (by decide +kernel), tg 336 (by decide +kernel) (by decide +kernel), tg 337 (by decide +kernel) (by decide +kernel), tg 63 (by decide +kernel) (by decide +kernel)⟩
theorem vl_RL_69 : VLink RL 69 yX4_task := ⟨tg 484 (by decide +kernel) (by decide +kernel), tg 485 (by decide +kernel) (by decide +kernel), tg 486 (by decide +kernel) (by decide +kernel), tg 62 (by decide +kernel) (by decide +kernel)⟩
theorem vl_RL_73 : VLink RL 73 yX4_swap := ⟨tg 488 (by decide +kernel) (by decide +kernel), tg 489 (by decide +kernel) (by decide +kernel), tg 490 (by decide +kernel) (by decide +kernel), tg 62 (by decide +kernel) (by decide +kernel)⟩
theorem vl_RL_77 : VLink RL 77 yX4_count := ⟨tg 492 (by decide +kernel) (by decide +kernel), tg 493 (by decide +kernel) (by decide +kernel), tg 494 (by decide +kernel) (by decide +kernel), tg 62 (by decide +kernel) (by decide +kernel)⟩
theorem vl_RX4_157 : VLink RX4 157 yX3_size := ⟨tg 496 (by decide +kernel) (by decide +kernel), tg 307 (by decide +kernel) (by decide +kernel), tg 308 (by decide +kernel) (by decide +kernel), tg 64 (by decide +kernel) (by decide +kernel)⟩
theorem vl_RX4_160 : VLink RX4 160 yX1_countOpenTasks := ⟨tg 497 (by decide +kernel) (by decide +kernel), tg 406 (by decide +kernel) (by decide +kernel), tg 407 (by decide +kernel) (by decide +kernel), tg 63 (by decide +kernel) (by decide +kernel)⟩
theorem vl_RX4_169 : VLink RX4 169 yX1_spread := ⟨tg 498 (by decide +kernel) (by decide +kernel), tg 499 (by decide +kernel) (by decide +kernel), tg 500 (by decide +kernel) (by decide +kernel), tg 63 (by decide +kernel) (by decide +kernel)⟩
theorem vl_RX1_170 : VLink RX1 170 yX1_spreadOf := ⟨tg 502 (by decide +kernel) (by decide +kernel), tg 504 (by decide +kernel) (by decide +kernel), tg 17 (by decide +kernel) (by decide +kernel), tg 63 (by decide +kernel) (by decide +kernel)⟩
theorem vl_RX1_177 : VLink RX1 177 yX1_rateOf := ⟨tg 507 (by decide +kernel) (by decide +kernel), tg 463 (by decide +kernel) (by decide +kernel), tg 464 (by decide +kernel) (by decide +kernel), tg 63 (by decide +kernel) (by decide +kernel)⟩
theorem jl_RX1_69 : Cond.methodLink RX1 69 Lib.Math.max.name ∈ TG := tg 508 (by decide +kernel) (by decide +kernel)
theorem vl_RX4_172 : VLink RX4 172 yX1_plannedSpread := ⟨tg 509 (by decide +kernel) (by decide +kernel), tg 510 (by decide +kernel) (by decide +kernel), tg 511 (by decide +kernel) (by decide +kernel), tg 63 (by decide +kernel) (by decide +kernel)⟩
theorem vl_RL_81 : VLink RL 81 yX4_forecast := ⟨tg 513 (by decide +kernel) (by decide +kernel), tg 514 (by decide +kernel) (by decide +kernel), tg 515 (by decide +kernel) (by decide +kernel), tg 62 (by decide +kernel) (by decide +kernel)⟩
theorem vl_RX4_181 : VLink RX4 181 yX1_copyFrom := ⟨tg 517 (by decide +kernel) (by decide +kernel), tg 232 (by decide +kernel) (by decide +kernel), tg 233 (by decide +kernel) (by decide +kernel), tg 63 (by decide +kernel) (by decide +kernel)⟩
theorem vl_RX4_184 : VLink RX4 184 yX1_countOpenDeepTasks := ⟨tg 518 (by decide +kernel) (by decide +kernel), tg 519 (by decide +kernel) (by decide +kernel), tg 520 (by decide +kernel) (by decide +kernel), tg 63 (by decide +kernel) (by decide +kernel)⟩
theorem vl_RX4_187 : VLink RX4 187 yX1_finishOpenTasks := ⟨tg 522 (by decide +kernel) (by decide +kernel), tg 523 (by decide +kernel) (by decide +kernel), tg 524 (by decide +kernel) (by decide +kernel), tg 63 (by decide +kernel) (by decide +kernel)⟩
theorem vl_RX1_143 : VLink RX1 143 yX1_finishFromTo := ⟨tg 526 (by decide +kernel) (by decide +kernel), tg 527 (by decide +kernel) (by decide +kernel), tg 528 (by decide +kernel) (by decide +kernel), tg 63 (by decide +kernel) (by decide +kernel)⟩
theorem vl_RX1_140 : VLink RX1 140 yX1_finish := ⟨tg 530 (by decide +kernel) (by decide +kernel), tg 366 (by decide +kernel) (by decide +kernel), tg 367 (by decide +kernel) (by decide +kernel), tg 63 (by decide +kernel) (by decide +kernel)⟩
theorem vl_RX4_190 : VLink RX4 190 yX1_greatestDirt := ⟨tg 531 (by decide +kernel) (by decide +kernel), tg 532 (by decide +kernel) (by decide +kernel), tg 533 (by decide +kernel) (by decide +kernel), tg 63 (by decide +kernel) (by decide +kernel)⟩
theorem vl_RL_85 : VLink RL 85 yX4_fairer := ⟨tg 535 (by decide +kernel) (by decide +kernel), tg 536 (by decide +kernel) (by decide +kernel), tg 537 (by decide +kernel) (by decide +kernel), tg 62 (by decide +kernel) (by decide +kernel)⟩
theorem vl_RX4_193 : VLink RX4 193 yX1_spreadIfExchanged := ⟨tg 539 (by decide +kernel) (by decide +kernel), tg 540 (by decide +kernel) (by decide +kernel), tg 541 (by decide +kernel) (by decide +kernel), tg 63 (by decide +kernel) (by decide +kernel)⟩
theorem vl_RL_91 : VLink RL 91 yX4_put := ⟨tg 543 (by decide +kernel) (by decide +kernel), tg 544 (by decide +kernel) (by decide +kernel), tg 545 (by decide +kernel) (by decide +kernel), tg 62 (by decide +kernel) (by decide +kernel)⟩
theorem sl_RX4_196 : SLink RX4 196 yX2_countCharacters := ⟨tg 547 (by decide +kernel) (by decide +kernel), tg 548 (by decide +kernel) (by decide +kernel), tg 67 (by decide +kernel) (by decide +kernel)⟩
theorem vl_RX4_200 : VLink RX4 200 yX2_append := ⟨tg 552 (by decide +kernel) (by decide +kernel), tg 553 (by decide +kernel) (by decide +kernel), tg 554 (by decide +kernel) (by decide +kernel), tg 67 (by decide +kernel) (by decide +kernel)⟩
theorem vl_RL_96 : VLink RL 96 yX4_wipe := ⟨tg 556 (by decide +kernel) (by decide +kernel), tg 557 (by decide +kernel) (by decide +kernel), tg 558 (by decide +kernel) (by decide +kernel), tg 62 (by decide +kernel) (by decide +kernel)⟩
theorem vl_RL_100 : VLink RL 100 yX4_fault := ⟨tg 560 (by decide +kernel) (by decide +kernel), tg 561 (by decide +kernel) (by decide +kernel), tg 562 (by decide +kernel) (by decide +kernel), tg 62 (by decide +kernel) (by decide +kernel)⟩
theorem vl_RX4_204 : VLink RX4 204 yX2_read := ⟨tg 564 (by decide +kernel) (by decide +kernel), tg 565 (by decide +kernel) (by decide +kernel), tg 566 (by decide +kernel) (by decide +kernel), tg 67 (by decide +kernel) (by decide +kernel)⟩
theorem vl_RX2_38 : VLink RX2 38 yX3_clear := ⟨tg 568 (by decide +kernel) (by decide +kernel), tg 414 (by decide +kernel) (by decide +kernel), tg 415 (by decide +kernel) (by decide +kernel), tg 64 (by decide +kernel) (by decide +kernel)⟩
theorem vl_RX2_41 : VLink RX2 41 yX2_endOfNumber := ⟨tg 569 (by decide +kernel) (by decide +kernel), tg 571 (by decide +kernel) (by decide +kernel), tg 18 (by decide +kernel) (by decide +kernel), tg 67 (by decide +kernel) (by decide +kernel)⟩
theorem vl_RX2_59 : VLink RX2 59 yX2_isDigitAt := ⟨tg 573 (by decide +kernel) (by decide +kernel), tg 575 (by decide +kernel) (by decide +kernel), tg 19 (by decide +kernel) (by decide +kernel), tg 67 (by decide +kernel) (by decide +kernel)⟩
theorem vl_RX2_34 : VLink RX2 34 yX2_characterAt := ⟨tg 577 (by decide +kernel) (by decide +kernel), tg 579 (by decide +kernel) (by decide +kernel), tg 20 (by decide +kernel) (by decide +kernel), tg 67 (by decide +kernel) (by decide +kernel)⟩
theorem vl_RX2_44 : VLink RX2 44 yX2_numberIn := ⟨tg 581 (by decide +kernel) (by decide +kernel), tg 583 (by decide +kernel) (by decide +kernel), tg 21 (by decide +kernel) (by decide +kernel), tg 67 (by decide +kernel) (by decide +kernel)⟩
theorem vl_RX2_48 : VLink RX2 48 yX2_addPart := ⟨tg 585 (by decide +kernel) (by decide +kernel), tg 587 (by decide +kernel) (by decide +kernel), tg 22 (by decide +kernel) (by decide +kernel), tg 67 (by decide +kernel) (by decide +kernel)⟩
theorem vl_RX2_51 : VLink RX2 51 yX3_append := ⟨tg 589 (by decide +kernel) (by decide +kernel), tg 108 (by decide +kernel) (by decide +kernel), tg 109 (by decide +kernel) (by decide +kernel), tg 64 (by decide +kernel) (by decide +kernel)⟩
theorem vl_RX2_55 : VLink RX2 55 yX3_write := ⟨tg 590 (by decide +kernel) (by decide +kernel), tg 116 (by decide +kernel) (by decide +kernel), tg 117 (by decide +kernel) (by decide +kernel), tg 64 (by decide +kernel) (by decide +kernel)⟩
theorem vl_RL_104 : VLink RL 104 yX4_load := ⟨tg 591 (by decide +kernel) (by decide +kernel), tg 592 (by decide +kernel) (by decide +kernel), tg 593 (by decide +kernel) (by decide +kernel), tg 62 (by decide +kernel) (by decide +kernel)⟩
theorem vl_RX4_210 : VLink RX4 210 yX1_finishFromTo := ⟨tg 595 (by decide +kernel) (by decide +kernel), tg 527 (by decide +kernel) (by decide +kernel), tg 528 (by decide +kernel) (by decide +kernel), tg 63 (by decide +kernel) (by decide +kernel)⟩
theorem vl_RL_108 : VLink RL 108 yX4_undo := ⟨tg 596 (by decide +kernel) (by decide +kernel), tg 597 (by decide +kernel) (by decide +kernel), tg 598 (by decide +kernel) (by decide +kernel), tg 62 (by decide +kernel) (by decide +kernel)⟩
theorem vl_RX4_214 : VLink RX4 214 yX0_restore := ⟨tg 600 (by decide +kernel) (by decide +kernel), tg 601 (by decide +kernel) (by decide +kernel), tg 602 (by decide +kernel) (by decide +kernel), tg 66 (by decide +kernel) (by decide +kernel)⟩
theorem il_RL_12 : ILink RL 12 yX5_init := ⟨tg 606 (by decide +kernel) (by decide +kernel), tg 607 (by decide +kernel) (by decide +kernel), tg 68 (by decide +kernel) (by decide +kernel)⟩
theorem ol_RX5_1 : Cond.methodLink RX5 1 objectInit ∈ TG := tg 609 (by decide +kernel) (by decide +kernel)
theorem vl_RL_17 : VLink RL 17 yX5_resident := ⟨tg 644 (by decide +kernel) (by decide +kernel), tg 645 (by decide +kernel) (by decide +kernel), tg 646 (by decide +kernel) (by decide +kernel), tg 68 (by decide +kernel) (by decide +kernel)⟩
theorem sl_RX5_29 : SLink RX5 29 yX5_in := ⟨tg 648 (by decide +kernel) (by decide +kernel), tg 649 (by decide +kernel) (by decide +kernel), tg 68 (by decide +kernel) (by decide +kernel)⟩
theorem vl_RX5_33 : VLink RX5 33 yX5_keep := ⟨tg 651 (by decide +kernel) (by decide +kernel), tg 653 (by decide +kernel) (by decide +kernel), tg 23 (by decide +kernel) (by decide +kernel), tg 68 (by decide +kernel) (by decide +kernel)⟩
theorem vl_RX5_36 : VLink RX5 36 yX5_lay := ⟨tg 655 (by decide +kernel) (by decide +kernel), tg 657 (by decide +kernel) (by decide +kernel), tg 24 (by decide +kernel) (by decide +kernel), tg 68 (by decide +kernel) (by decide +kernel)⟩
theorem vl_RL_22 : VLink RL 22 yX5_weigh := ⟨tg 659 (by decide +kernel) (by decide +kernel), tg 660 (by decide +kernel) (by decide +kernel), tg 661 (by decide +kernel) (by decide +kernel), tg 68 (by decide +kernel) (by decide +kernel)⟩
theorem vl_RX5_40 : VLink RX5 40 yX5_isResident := ⟨tg 663 (by decide +kernel) (by decide +kernel), tg 665 (by decide +kernel) (by decide +kernel), tg 25 (by decide +kernel) (by decide +kernel), tg 68 (by decide +kernel) (by decide +kernel)⟩
theorem vl_RX5_44 : VLink RX5 44 yX5_of := ⟨tg 667 (by decide +kernel) (by decide +kernel), tg 669 (by decide +kernel) (by decide +kernel), tg 26 (by decide +kernel) (by decide +kernel), tg 68 (by decide +kernel) (by decide +kernel)⟩
theorem vl_RL_27 : VLink RL 27 yX5_away := ⟨tg 671 (by decide +kernel) (by decide +kernel), tg 672 (by decide +kernel) (by decide +kernel), tg 673 (by decide +kernel) (by decide +kernel), tg 68 (by decide +kernel) (by decide +kernel)⟩
theorem vl_RX5_48 : VLink RX5 48 yX5_isAway := ⟨tg 675 (by decide +kernel) (by decide +kernel), tg 677 (by decide +kernel) (by decide +kernel), tg 27 (by decide +kernel) (by decide +kernel), tg 68 (by decide +kernel) (by decide +kernel)⟩
theorem vl_RL_31 : VLink RL 31 yX5_area := ⟨tg 679 (by decide +kernel) (by decide +kernel), tg 680 (by decide +kernel) (by decide +kernel), tg 681 (by decide +kernel) (by decide +kernel), tg 68 (by decide +kernel) (by decide +kernel)⟩
theorem vl_RX5_51 : VLink RX5 51 yX5_layArea := ⟨tg 683 (by decide +kernel) (by decide +kernel), tg 685 (by decide +kernel) (by decide +kernel), tg 28 (by decide +kernel) (by decide +kernel), tg 68 (by decide +kernel) (by decide +kernel)⟩
theorem vl_RL_35 : VLink RL 35 yX5_set := ⟨tg 687 (by decide +kernel) (by decide +kernel), tg 688 (by decide +kernel) (by decide +kernel), tg 689 (by decide +kernel) (by decide +kernel), tg 68 (by decide +kernel) (by decide +kernel)⟩
theorem sl_RX5_54 : SLink RX5 54 yX5_takes := ⟨tg 691 (by decide +kernel) (by decide +kernel), tg 692 (by decide +kernel) (by decide +kernel), tg 68 (by decide +kernel) (by decide +kernel)⟩
theorem vl_RX5_58 : VLink RX5 58 yX5_setting := ⟨tg 694 (by decide +kernel) (by decide +kernel), tg 696 (by decide +kernel) (by decide +kernel), tg 29 (by decide +kernel) (by decide +kernel), tg 68 (by decide +kernel) (by decide +kernel)⟩
theorem vl_RL_40 : VLink RL 40 yX5_plan := ⟨tg 698 (by decide +kernel) (by decide +kernel), tg 699 (by decide +kernel) (by decide +kernel), tg 700 (by decide +kernel) (by decide +kernel), tg 68 (by decide +kernel) (by decide +kernel)⟩
theorem vl_RX5_92 : VLink RX5 92 yX5_makePlan := ⟨tg 702 (by decide +kernel) (by decide +kernel), tg 704 (by decide +kernel) (by decide +kernel), tg 30 (by decide +kernel) (by decide +kernel), tg 68 (by decide +kernel) (by decide +kernel)⟩
theorem vl_RX5_77 : VLink RX5 77 yX5_bestFor := ⟨tg 706 (by decide +kernel) (by decide +kernel), tg 708 (by decide +kernel) (by decide +kernel), tg 31 (by decide +kernel) (by decide +kernel), tg 68 (by decide +kernel) (by decide +kernel)⟩
theorem vl_RX5_74 : VLink RX5 74 yX5_isAhead := ⟨tg 710 (by decide +kernel) (by decide +kernel), tg 712 (by decide +kernel) (by decide +kernel), tg 32 (by decide +kernel) (by decide +kernel), tg 68 (by decide +kernel) (by decide +kernel)⟩
theorem vl_RX5_71 : VLink RX5 71 yX5_loadOf := ⟨tg 714 (by decide +kernel) (by decide +kernel), tg 716 (by decide +kernel) (by decide +kernel), tg 33 (by decide +kernel) (by decide +kernel), tg 68 (by decide +kernel) (by decide +kernel)⟩
theorem vl_RX5_65 : VLink RX5 65 yX5_ofTask := ⟨tg 718 (by decide +kernel) (by decide +kernel), tg 720 (by decide +kernel) (by decide +kernel), tg 34 (by decide +kernel) (by decide +kernel), tg 68 (by decide +kernel) (by decide +kernel)⟩
theorem vl_RX5_80 : VLink RX5 80 yX5_needsDeep := ⟨tg 722 (by decide +kernel) (by decide +kernel), tg 724 (by decide +kernel) (by decide +kernel), tg 35 (by decide +kernel) (by decide +kernel), tg 68 (by decide +kernel) (by decide +kernel)⟩
theorem vl_RX5_62 : VLink RX5 62 yX5_ofArea := ⟨tg 726 (by decide +kernel) (by decide +kernel), tg 728 (by decide +kernel) (by decide +kernel), tg 36 (by decide +kernel) (by decide +kernel), tg 68 (by decide +kernel) (by decide +kernel)⟩
theorem vl_RX5_83 : VLink RX5 83 yX5_addTask := ⟨tg 730 (by decide +kernel) (by decide +kernel), tg 732 (by decide +kernel) (by decide +kernel), tg 37 (by decide +kernel) (by decide +kernel), tg 68 (by decide +kernel) (by decide +kernel)⟩
theorem vl_RX5_68 : VLink RX5 68 yX5_layTask := ⟨tg 734 (by decide +kernel) (by decide +kernel), tg 736 (by decide +kernel) (by decide +kernel), tg 38 (by decide +kernel) (by decide +kernel), tg 68 (by decide +kernel) (by decide +kernel)⟩
theorem vl_RX5_86 : VLink RX5 86 yX5_isDue := ⟨tg 738 (by decide +kernel) (by decide +kernel), tg 740 (by decide +kernel) (by decide +kernel), tg 39 (by decide +kernel) (by decide +kernel), tg 68 (by decide +kernel) (by decide +kernel)⟩
theorem vl_RX5_89 : VLink RX5 89 yX5_partnerOf := ⟨tg 742 (by decide +kernel) (by decide +kernel), tg 744 (by decide +kernel) (by decide +kernel), tg 40 (by decide +kernel) (by decide +kernel), tg 68 (by decide +kernel) (by decide +kernel)⟩
theorem vl_RL_44 : VLink RL 44 yX5_done := ⟨tg 746 (by decide +kernel) (by decide +kernel), tg 747 (by decide +kernel) (by decide +kernel), tg 748 (by decide +kernel) (by decide +kernel), tg 68 (by decide +kernel) (by decide +kernel)⟩
theorem vl_RX5_112 : VLink RX5 112 yX5_isTask := ⟨tg 750 (by decide +kernel) (by decide +kernel), tg 752 (by decide +kernel) (by decide +kernel), tg 41 (by decide +kernel) (by decide +kernel), tg 68 (by decide +kernel) (by decide +kernel)⟩
theorem vl_RX5_115 : VLink RX5 115 yX5_finish := ⟨tg 754 (by decide +kernel) (by decide +kernel), tg 756 (by decide +kernel) (by decide +kernel), tg 42 (by decide +kernel) (by decide +kernel), tg 68 (by decide +kernel) (by decide +kernel)⟩
theorem vl_RX5_103 : VLink RX5 103 yX5_isLastOf := ⟨tg 758 (by decide +kernel) (by decide +kernel), tg 760 (by decide +kernel) (by decide +kernel), tg 43 (by decide +kernel) (by decide +kernel), tg 68 (by decide +kernel) (by decide +kernel)⟩
theorem vl_RX5_106 : VLink RX5 106 yX5_clean := ⟨tg 762 (by decide +kernel) (by decide +kernel), tg 764 (by decide +kernel) (by decide +kernel), tg 44 (by decide +kernel) (by decide +kernel), tg 68 (by decide +kernel) (by decide +kernel)⟩
theorem vl_RX5_109 : VLink RX5 109 yX5_dropSwaps := ⟨tg 766 (by decide +kernel) (by decide +kernel), tg 768 (by decide +kernel) (by decide +kernel), tg 45 (by decide +kernel) (by decide +kernel), tg 68 (by decide +kernel) (by decide +kernel)⟩
theorem vl_RX5_96 : VLink RX5 96 yX5_ofSwap := ⟨tg 770 (by decide +kernel) (by decide +kernel), tg 772 (by decide +kernel) (by decide +kernel), tg 46 (by decide +kernel) (by decide +kernel), tg 68 (by decide +kernel) (by decide +kernel)⟩
theorem vl_RX5_99 : VLink RX5 99 yX5_removeSwap := ⟨tg 774 (by decide +kernel) (by decide +kernel), tg 776 (by decide +kernel) (by decide +kernel), tg 47 (by decide +kernel) (by decide +kernel), tg 68 (by decide +kernel) (by decide +kernel)⟩
theorem vl_RL_48 : VLink RL 48 yX5_extra := ⟨tg 778 (by decide +kernel) (by decide +kernel), tg 779 (by decide +kernel) (by decide +kernel), tg 780 (by decide +kernel) (by decide +kernel), tg 68 (by decide +kernel) (by decide +kernel)⟩
theorem vl_RX5_118 : VLink RX5 118 yX5_isArea := ⟨tg 782 (by decide +kernel) (by decide +kernel), tg 784 (by decide +kernel) (by decide +kernel), tg 48 (by decide +kernel) (by decide +kernel), tg 68 (by decide +kernel) (by decide +kernel)⟩
theorem vl_RL_52 : VLink RL 52 yX5_end := ⟨tg 786 (by decide +kernel) (by decide +kernel), tg 787 (by decide +kernel) (by decide +kernel), tg 788 (by decide +kernel) (by decide +kernel), tg 68 (by decide +kernel) (by decide +kernel)⟩
theorem vl_RX5_121 : VLink RX5 121 yX5_makeEnd := ⟨tg 790 (by decide +kernel) (by decide +kernel), tg 792 (by decide +kernel) (by decide +kernel), tg 49 (by decide +kernel) (by decide +kernel), tg 68 (by decide +kernel) (by decide +kernel)⟩
theorem vl_RL_56 : VLink RL 56 yX5_propose := ⟨tg 794 (by decide +kernel) (by decide +kernel), tg 795 (by decide +kernel) (by decide +kernel), tg 796 (by decide +kernel) (by decide +kernel), tg 68 (by decide +kernel) (by decide +kernel)⟩
theorem vl_RX5_124 : VLink RX5 124 yX5_isProposed := ⟨tg 798 (by decide +kernel) (by decide +kernel), tg 800 (by decide +kernel) (by decide +kernel), tg 50 (by decide +kernel) (by decide +kernel), tg 68 (by decide +kernel) (by decide +kernel)⟩
theorem vl_RL_60 : VLink RL 60 yX5_answer := ⟨tg 802 (by decide +kernel) (by decide +kernel), tg 803 (by decide +kernel) (by decide +kernel), tg 804 (by decide +kernel) (by decide +kernel), tg 68 (by decide +kernel) (by decide +kernel)⟩
theorem vl_RX5_127 : VLink RX5 127 yX5_exchange := ⟨tg 806 (by decide +kernel) (by decide +kernel), tg 808 (by decide +kernel) (by decide +kernel), tg 51 (by decide +kernel) (by decide +kernel), tg 68 (by decide +kernel) (by decide +kernel)⟩
theorem vl_RL_64 : VLink RL 64 yX5_about := ⟨tg 810 (by decide +kernel) (by decide +kernel), tg 811 (by decide +kernel) (by decide +kernel), tg 812 (by decide +kernel) (by decide +kernel), tg 68 (by decide +kernel) (by decide +kernel)⟩
theorem vl_RX5_131 : VLink RX5 131 yX5_openOf := ⟨tg 814 (by decide +kernel) (by decide +kernel), tg 816 (by decide +kernel) (by decide +kernel), tg 52 (by decide +kernel) (by decide +kernel), tg 68 (by decide +kernel) (by decide +kernel)⟩
theorem vl_RL_68 : VLink RL 68 yX5_room := ⟨tg 818 (by decide +kernel) (by decide +kernel), tg 819 (by decide +kernel) (by decide +kernel), tg 820 (by decide +kernel) (by decide +kernel), tg 68 (by decide +kernel) (by decide +kernel)⟩
theorem vl_RL_72 : VLink RL 72 yX5_task := ⟨tg 822 (by decide +kernel) (by decide +kernel), tg 823 (by decide +kernel) (by decide +kernel), tg 824 (by decide +kernel) (by decide +kernel), tg 68 (by decide +kernel) (by decide +kernel)⟩
theorem vl_RL_76 : VLink RL 76 yX5_swap := ⟨tg 826 (by decide +kernel) (by decide +kernel), tg 827 (by decide +kernel) (by decide +kernel), tg 828 (by decide +kernel) (by decide +kernel), tg 68 (by decide +kernel) (by decide +kernel)⟩
theorem vl_RL_80 : VLink RL 80 yX5_count := ⟨tg 830 (by decide +kernel) (by decide +kernel), tg 831 (by decide +kernel) (by decide +kernel), tg 832 (by decide +kernel) (by decide +kernel), tg 68 (by decide +kernel) (by decide +kernel)⟩
theorem vl_RX5_135 : VLink RX5 135 yX5_openTasks := ⟨tg 834 (by decide +kernel) (by decide +kernel), tg 836 (by decide +kernel) (by decide +kernel), tg 53 (by decide +kernel) (by decide +kernel), tg 68 (by decide +kernel) (by decide +kernel)⟩
theorem vl_RX5_138 : VLink RX5 138 yX5_spread := ⟨tg 838 (by decide +kernel) (by decide +kernel), tg 840 (by decide +kernel) (by decide +kernel), tg 54 (by decide +kernel) (by decide +kernel), tg 68 (by decide +kernel) (by decide +kernel)⟩
theorem vl_RL_84 : VLink RL 84 yX5_forecast := ⟨tg 842 (by decide +kernel) (by decide +kernel), tg 843 (by decide +kernel) (by decide +kernel), tg 844 (by decide +kernel) (by decide +kernel), tg 68 (by decide +kernel) (by decide +kernel)⟩
theorem vl_RX5_145 : VLink RX5 145 yX5_putAside := ⟨tg 846 (by decide +kernel) (by decide +kernel), tg 848 (by decide +kernel) (by decide +kernel), tg 55 (by decide +kernel) (by decide +kernel), tg 68 (by decide +kernel) (by decide +kernel)⟩
theorem vl_RX5_148 : VLink RX5 148 yX5_foulest := ⟨tg 850 (by decide +kernel) (by decide +kernel), tg 852 (by decide +kernel) (by decide +kernel), tg 56 (by decide +kernel) (by decide +kernel), tg 68 (by decide +kernel) (by decide +kernel)⟩
theorem vl_RX5_151 : VLink RX5 151 yX5_putBack := ⟨tg 854 (by decide +kernel) (by decide +kernel), tg 856 (by decide +kernel) (by decide +kernel), tg 57 (by decide +kernel) (by decide +kernel), tg 68 (by decide +kernel) (by decide +kernel)⟩
theorem vl_RL_88 : VLink RL 88 yX5_fairer := ⟨tg 858 (by decide +kernel) (by decide +kernel), tg 859 (by decide +kernel) (by decide +kernel), tg 860 (by decide +kernel) (by decide +kernel), tg 68 (by decide +kernel) (by decide +kernel)⟩
theorem vl_RL_95 : VLink RL 95 yX5_put := ⟨tg 862 (by decide +kernel) (by decide +kernel), tg 863 (by decide +kernel) (by decide +kernel), tg 864 (by decide +kernel) (by decide +kernel), tg 68 (by decide +kernel) (by decide +kernel)⟩
theorem vl_RL_99 : VLink RL 99 yX5_wipe := ⟨tg 867 (by decide +kernel) (by decide +kernel), tg 868 (by decide +kernel) (by decide +kernel), tg 869 (by decide +kernel) (by decide +kernel), tg 68 (by decide +kernel) (by decide +kernel)⟩
theorem vl_RL_103 : VLink RL 103 yX5_fault := ⟨tg 871 (by decide +kernel) (by decide +kernel), tg 872 (by decide +kernel) (by decide +kernel), tg 873 (by decide +kernel) (by decide +kernel), tg 68 (by decide +kernel) (by decide +kernel)⟩
theorem vl_RX5_175 : VLink RX5 175 yX5_takePart := ⟨tg 875 (by decide +kernel) (by decide +kernel), tg 877 (by decide +kernel) (by decide +kernel), tg 58 (by decide +kernel) (by decide +kernel), tg 68 (by decide +kernel) (by decide +kernel)⟩
theorem vl_RX5_166 : VLink RX5 166 yX5_takeNumber := ⟨tg 879 (by decide +kernel) (by decide +kernel), tg 881 (by decide +kernel) (by decide +kernel), tg 59 (by decide +kernel) (by decide +kernel), tg 68 (by decide +kernel) (by decide +kernel)⟩
theorem vl_RX5_163 : VLink RX5 163 yX5_next := ⟨tg 883 (by decide +kernel) (by decide +kernel), tg 885 (by decide +kernel) (by decide +kernel), tg 60 (by decide +kernel) (by decide +kernel), tg 68 (by decide +kernel) (by decide +kernel)⟩
theorem vl_RL_107 : VLink RL 107 yX5_load := ⟨tg 887 (by decide +kernel) (by decide +kernel), tg 888 (by decide +kernel) (by decide +kernel), tg 889 (by decide +kernel) (by decide +kernel), tg 68 (by decide +kernel) (by decide +kernel)⟩
theorem vl_RX5_178 : VLink RX5 178 yX5_fault := ⟨tg 891 (by decide +kernel) (by decide +kernel), tg 872 (by decide +kernel) (by decide +kernel), tg 873 (by decide +kernel) (by decide +kernel), tg 68 (by decide +kernel) (by decide +kernel)⟩
theorem vl_RL_111 : VLink RL 111 yX5_undo := ⟨tg 892 (by decide +kernel) (by decide +kernel), tg 893 (by decide +kernel) (by decide +kernel), tg 894 (by decide +kernel) (by decide +kernel), tg 68 (by decide +kernel) (by decide +kernel)⟩
theorem j_max : Cond.static Lib.Math.max.name ∈ TG ∧ Cond.initialized "java/lang/Math" ∈ TG ∧ Cond.code Lib.Math.max.name Lib.Math.max.code 2 (some .int) ∈ TG := ⟨tg 91 (by decide +kernel) (by decide +kernel), tg 65 (by decide +kernel) (by decide +kernel), tg 92 (by decide +kernel) (by decide +kernel)⟩
theorem j_min : Cond.static Lib.Math.min.name ∈ TG ∧ Cond.initialized "java/lang/Math" ∈ TG ∧ Cond.code Lib.Math.min.name Lib.Math.min.code 2 (some .int) ∈ TG := ⟨tg 240 (by decide +kernel) (by decide +kernel), tg 65 (by decide +kernel) (by decide +kernel), tg 241 (by decide +kernel) (by decide +kernel)⟩
theorem j_cpy : Cond.native arraycopyName ∈ TG ∧ Cond.static arraycopyName ∈ TG ∧ Cond.initialized "java/lang/System" ∈ TG := ⟨tg 244 (by decide +kernel) (by decide +kernel), tg 243 (by decide +kernel) (by decide +kernel), tg 69 (by decide +kernel) (by decide +kernel)⟩
theorem k_max : Cond.constant RX1 176 2147483647 ∈ TG := tg 506 (by decide +kernel) (by decide +kernel)
theorem kl_RX2 : Cond.constantLong RX2 24 255 ∈ TG := tg 550 (by decide +kernel) (by decide +kernel)
theorem kl_RX5 : Cond.constantLong RX5 154 255 ∈ TG := tg 866 (by decide +kernel) (by decide +kernel)
theorem kl_RL : Cond.constantLong RL 89 4294967295 ∈ TG := tg 896 (by decide +kernel) (by decide +kernel)
theorem nl_X4_isIn : NLink yX4_isIn := ⟨tg 216 (by decide +kernel) (by decide +kernel), tg 62 (by decide +kernel) (by decide +kernel)⟩
theorem nl_X4_bit : NLink yX4_bit := ⟨tg 277 (by decide +kernel) (by decide +kernel), tg 62 (by decide +kernel) (by decide +kernel)⟩
def nestWs : List Cond := [Cond.methodLinkNest RX1 62 yX4_isIn RX4, Cond.methodLinkNest RX1 104 yX4_bit RX4, Cond.methodLinkNest RX2 26 yX4_isIn RX4, Cond.fieldLinkNest RX4 37 RX1 "residents" "LCleaningRota$Table;" RX4, Cond.fieldLinkNest RX4 77 RX1 "areas" "LCleaningRota$Table;" RX4, Cond.fieldLinkNest RX4 98 RX1 "tasks" "LCleaningRota$Table;" RX4, Cond.fieldLinkNest RX4 127 RX1 "swaps" "LCleaningRota$Table;" RX4, Cond.fieldLinkNest RX4 87 RX1 "settings" "LCleaningRota$Table;" RX4, Cond.fieldLinkNest RX4 114 RX1 "week" "I" RX4, Cond.fieldLinkNest RX4 90 RX1 "isPlanned" "Z" RX4, Cond.fieldLinkNest RX4 163 RX1 "tasksDone" "I" RX4, Cond.fieldLinkNest RX4 166 RX1 "tasksSkipped" "I" RX4, Cond.fieldLinkNest RX4 178 RX0 "kept" "I" RX4, Cond.fieldLinkNest RX4 175 RX2 "length" "I" RX4, Cond.fieldLinkNest RX4 207 RX2 "parts" "LCleaningRota$Table;" RX4]
theorem nest_in : ∀ w ∈ nestWs, w ∈ lw_tbl := by
  intro w hw
  have h : nestWs = [275, 343, 551, 121, 123, 125, 127, 129, 131, 133, 135, 137, 168, 184, 186].filterMap (fun i => lw_tbl[i]?) := by decide +kernel
  rw [h] at hw
  obtain ⟨i, -, hi⟩ := List.mem_filterMap.mp hw
  exact List.mem_of_getElem? hi
-- the field links of a class: pool number, class, field
def FLw (own : String) (e : Nat × Nat × Nat) : Prop := ∃ r : vw_C, vwCl[e.2.1]? = some r ∧ e.2.2 < r.2.2 ∧ r.1 = (r.2.1 e.2.2).1 ∧ (Cond.fieldLink own e.1 r.1 (r.2.1 e.2.2).2.1 (r.2.1 e.2.2).2.2.1 ∈ TG ∨ Cond.fieldLinkNest own e.1 r.1 (r.2.1 e.2.2).2.1 (r.2.1 e.2.2).2.2.1 RX4 ∈ nestWs)
def fl0 : List (Nat × Nat × Nat) := [(11, 0, 0), (16, 0, 1)]
theorem fl0_ok : ∀ e ∈ fl0, FLw RX0 e := List.forall_mem_cons.mpr ⟨⟨_, rfl, by decide +kernel, by decide +kernel, Or.inl (tg 166 (by decide +kernel) (by decide +kernel))⟩, List.forall_mem_cons.mpr ⟨⟨_, rfl, by decide +kernel, by decide +kernel, Or.inl (tg 167 (by decide +kernel) (by decide +kernel))⟩, fun _ h => absurd h List.not_mem_nil⟩⟩
def fl1 : List (Nat × Nat × Nat) := [(16, 1, 0), (20, 1, 1), (23, 1, 2), (26, 1, 3), (29, 1, 4), (44, 1, 5), (48, 1, 6), (52, 1, 7), (55, 1, 8)]
theorem fl1_ok : ∀ e ∈ fl1, FLw RX1 e := List.forall_mem_cons.mpr ⟨⟨_, rfl, by decide +kernel, by decide +kernel, Or.inl (tg 120 (by decide +kernel) (by decide +kernel))⟩, List.forall_mem_cons.mpr ⟨⟨_, rfl, by decide +kernel, by decide +kernel, Or.inl (tg 122 (by decide +kernel) (by decide +kernel))⟩, List.forall_mem_cons.mpr ⟨⟨_, rfl, by decide +kernel, by decide +kernel, Or.inl (tg 124 (by decide +kernel) (by decide +kernel))⟩, List.forall_mem_cons.mpr ⟨⟨_, rfl, by decide +kernel, by decide +kernel, Or.inl (tg 126 (by decide +kernel) (by decide +kernel))⟩, List.forall_mem_cons.mpr ⟨⟨_, rfl, by decide +kernel, by decide +kernel, Or.inl (tg 128 (by decide +kernel) (by decide +kernel))⟩, List.forall_mem_cons.mpr ⟨⟨_, rfl, by decide +kernel, by decide +kernel, Or.inl (tg 130 (by decide +kernel) (by decide +kernel))⟩, List.forall_mem_cons.mpr ⟨⟨_, rfl, by decide +kernel, by decide +kernel, Or.inl (tg 132 (by decide +kernel) (by decide +kernel))⟩, List.forall_mem_cons.mpr ⟨⟨_, rfl, by decide +kernel, by decide +kernel, Or.inl (tg 134 (by decide +kernel) (by decide +kernel))⟩, List.forall_mem_cons.mpr ⟨⟨_, rfl, by decide +kernel, by decide +kernel, Or.inl (tg 136 (by decide +kernel) (by decide +kernel))⟩, fun _ h => absurd h List.not_mem_nil⟩⟩⟩⟩⟩⟩⟩⟩⟩
def fl2 : List (Nat × Nat × Nat) := [(9, 2, 0), (30, 2, 1), (20, 2, 2)]
theorem fl2_ok : ∀ e ∈ fl2, FLw RX2 e := List.forall_mem_cons.mpr ⟨⟨_, rfl, by decide +kernel, by decide +kernel, Or.inl (tg 182 (by decide +kernel) (by decide +kernel))⟩, List.forall_mem_cons.mpr ⟨⟨_, rfl, by decide +kernel, by decide +kernel, Or.inl (tg 183 (by decide +kernel) (by decide +kernel))⟩, List.forall_mem_cons.mpr ⟨⟨_, rfl, by decide +kernel, by decide +kernel, Or.inl (tg 185 (by decide +kernel) (by decide +kernel))⟩, fun _ h => absurd h List.not_mem_nil⟩⟩⟩
def fl3 : List (Nat × Nat × Nat) := [(9, 3, 0), (15, 3, 1), (24, 3, 2), (28, 3, 3)]
theorem fl3_ok : ∀ e ∈ fl3, FLw RX3 e := List.forall_mem_cons.mpr ⟨⟨_, rfl, by decide +kernel, by decide +kernel, Or.inl (tg 93 (by decide +kernel) (by decide +kernel))⟩, List.forall_mem_cons.mpr ⟨⟨_, rfl, by decide +kernel, by decide +kernel, Or.inl (tg 94 (by decide +kernel) (by decide +kernel))⟩, List.forall_mem_cons.mpr ⟨⟨_, rfl, by decide +kernel, by decide +kernel, Or.inl (tg 95 (by decide +kernel) (by decide +kernel))⟩, List.forall_mem_cons.mpr ⟨⟨_, rfl, by decide +kernel, by decide +kernel, Or.inl (tg 96 (by decide +kernel) (by decide +kernel))⟩, fun _ h => absurd h List.not_mem_nil⟩⟩⟩⟩
def fl4 : List (Nat × Nat × Nat) := [(10, 4, 0), (16, 4, 1), (22, 4, 2), (29, 4, 3), (37, 1, 0), (77, 1, 1), (98, 1, 2), (127, 1, 3), (87, 1, 4), (114, 1, 5), (90, 1, 6), (163, 1, 7), (166, 1, 8), (178, 0, 1), (175, 2, 1), (207, 2, 2)]
theorem fl4_ok : ∀ e ∈ fl4, FLw RX4 e := List.forall_mem_cons.mpr ⟨⟨_, rfl, by decide +kernel, by decide +kernel, Or.inl (tg 195 (by decide +kernel) (by decide +kernel))⟩, List.forall_mem_cons.mpr ⟨⟨_, rfl, by decide +kernel, by decide +kernel, Or.inl (tg 196 (by decide +kernel) (by decide +kernel))⟩, List.forall_mem_cons.mpr ⟨⟨_, rfl, by decide +kernel, by decide +kernel, Or.inl (tg 197 (by decide +kernel) (by decide +kernel))⟩, List.forall_mem_cons.mpr ⟨⟨_, rfl, by decide +kernel, by decide +kernel, Or.inl (tg 198 (by decide +kernel) (by decide +kernel))⟩, List.forall_mem_cons.mpr ⟨⟨_, rfl, by decide +kernel, by decide +kernel, Or.inr (by decide +kernel)⟩, List.forall_mem_cons.mpr ⟨⟨_, rfl, by decide +kernel, by decide +kernel, Or.inr (by decide +kernel)⟩, List.forall_mem_cons.mpr ⟨⟨_, rfl, by decide +kernel, by decide +kernel, Or.inr (by decide +kernel)⟩, List.forall_mem_cons.mpr ⟨⟨_, rfl, by decide +kernel, by decide +kernel, Or.inr (by decide +kernel)⟩, List.forall_mem_cons.mpr ⟨⟨_, rfl, by decide +kernel, by decide +kernel, Or.inr (by decide +kernel)⟩, List.forall_mem_cons.mpr ⟨⟨_, rfl, by decide +kernel, by decide +kernel, Or.inr (by decide +kernel)⟩, List.forall_mem_cons.mpr ⟨⟨_, rfl, by decide +kernel, by decide +kernel, Or.inr (by decide +kernel)⟩, List.forall_mem_cons.mpr ⟨⟨_, rfl, by decide +kernel, by decide +kernel, Or.inr (by decide +kernel)⟩, List.forall_mem_cons.mpr ⟨⟨_, rfl, by decide +kernel, by decide +kernel, Or.inr (by decide +kernel)⟩, List.forall_mem_cons.mpr ⟨⟨_, rfl, by decide +kernel, by decide +kernel, Or.inr (by decide +kernel)⟩, List.forall_mem_cons.mpr ⟨⟨_, rfl, by decide +kernel, by decide +kernel, Or.inr (by decide +kernel)⟩, List.forall_mem_cons.mpr ⟨⟨_, rfl, by decide +kernel, by decide +kernel, Or.inr (by decide +kernel)⟩, fun _ h => absurd h List.not_mem_nil⟩⟩⟩⟩⟩⟩⟩⟩⟩⟩⟩⟩⟩⟩⟩⟩
def fl5 : List (Nat × Nat × Nat) := [(7, 5, 0), (13, 5, 1), (16, 5, 2), (25, 5, 3), (19, 5, 4), (142, 5, 5), (156, 5, 6), (159, 5, 7), (169, 5, 8), (22, 5, 9), (172, 5, 10)]
theorem fl5_ok : ∀ e ∈ fl5, FLw RX5 e := List.forall_mem_cons.mpr ⟨⟨_, rfl, by decide +kernel, by decide +kernel, Or.inl (tg 610 (by decide +kernel) (by decide +kernel))⟩, List.forall_mem_cons.mpr ⟨⟨_, rfl, by decide +kernel, by decide +kernel, Or.inl (tg 611 (by decide +kernel) (by decide +kernel))⟩, List.forall_mem_cons.mpr ⟨⟨_, rfl, by decide +kernel, by decide +kernel, Or.inl (tg 612 (by decide +kernel) (by decide +kernel))⟩, List.forall_mem_cons.mpr ⟨⟨_, rfl, by decide +kernel, by decide +kernel, Or.inl (tg 613 (by decide +kernel) (by decide +kernel))⟩, List.forall_mem_cons.mpr ⟨⟨_, rfl, by decide +kernel, by decide +kernel, Or.inl (tg 614 (by decide +kernel) (by decide +kernel))⟩, List.forall_mem_cons.mpr ⟨⟨_, rfl, by decide +kernel, by decide +kernel, Or.inl (tg 615 (by decide +kernel) (by decide +kernel))⟩, List.forall_mem_cons.mpr ⟨⟨_, rfl, by decide +kernel, by decide +kernel, Or.inl (tg 616 (by decide +kernel) (by decide +kernel))⟩, List.forall_mem_cons.mpr ⟨⟨_, rfl, by decide +kernel, by decide +kernel, Or.inl (tg 617 (by decide +kernel) (by decide +kernel))⟩, List.forall_mem_cons.mpr ⟨⟨_, rfl, by decide +kernel, by decide +kernel, Or.inl (tg 618 (by decide +kernel) (by decide +kernel))⟩, List.forall_mem_cons.mpr ⟨⟨_, rfl, by decide +kernel, by decide +kernel, Or.inl (tg 619 (by decide +kernel) (by decide +kernel))⟩, List.forall_mem_cons.mpr ⟨⟨_, rfl, by decide +kernel, by decide +kernel, Or.inl (tg 620 (by decide +kernel) (by decide +kernel))⟩, fun _ h => absurd h List.not_mem_nil⟩⟩⟩⟩⟩⟩⟩⟩⟩⟩⟩
theorem iw0 : ∀ w ∈ wsX00, w ∈ TG := by
  intro w hw
  have h : wsX00 = [169, 171].filterMap (fun i => lw_tbl[i]?) := by decide +kernel
  have g : wsX00.all goodWord = true := by decide +kernel
  have hg := List.all_eq_true.mp g w hw
  rw [h] at hw
  obtain ⟨i, -, hi⟩ := List.mem_filterMap.mp hw
  exact tg i hi hg
theorem iw1 : ∀ w ∈ wsX10, w ∈ TG := by
  intro w hw
  have h : wsX10 = [138, 140, 142, 144, 146, 148, 150, 152, 154].filterMap (fun i => lw_tbl[i]?) := by decide +kernel
  have g : wsX10.all goodWord = true := by decide +kernel
  have hg := List.all_eq_true.mp g w hw
  rw [h] at hw
  obtain ⟨i, -, hi⟩ := List.mem_filterMap.mp hw
  exact tg i hi hg
theorem iw2 : ∀ w ∈ wsX20, w ∈ TG := by
  intro w hw
  have h : wsX20 = [187, 189, 191].filterMap (fun i => lw_tbl[i]?) := by decide +kernel
  have g : wsX20.all goodWord = true := by decide +kernel
  have hg := List.all_eq_true.mp g w hw
  rw [h] at hw
  obtain ⟨i, -, hi⟩ := List.mem_filterMap.mp hw
  exact tg i hi hg
theorem iw3 : ∀ w ∈ wsX30, w ∈ TG := by
  intro w hw
  have h : wsX30 = [97, 99, 101, 103].filterMap (fun i => lw_tbl[i]?) := by decide +kernel
  have g : wsX30.all goodWord = true := by decide +kernel
  have hg := List.all_eq_true.mp g w hw
  rw [h] at hw
  obtain ⟨i, -, hi⟩ := List.mem_filterMap.mp hw
  exact tg i hi hg
theorem iw4 : ∀ w ∈ wsX40, w ∈ TG := by
  intro w hw
  have h : wsX40 = [199, 201, 203, 205].filterMap (fun i => lw_tbl[i]?) := by decide +kernel
  have g : wsX40.all goodWord = true := by decide +kernel
  have hg := List.all_eq_true.mp g w hw
  rw [h] at hw
  obtain ⟨i, -, hi⟩ := List.mem_filterMap.mp hw
  exact tg i hi hg
theorem iw5 : ∀ w ∈ wsX50, w ∈ TG := by
  intro w hw
  have h : wsX50 = [621, 623, 625, 627, 629, 631, 633, 635, 637, 639, 641].filterMap (fun i => lw_tbl[i]?) := by decide +kernel
  have g : wsX50.all goodWord = true := by decide +kernel
  have hg := List.all_eq_true.mp g w hw
  rw [h] at hw
  obtain ⟨i, -, hi⟩ := List.mem_filterMap.mp hw
  exact tg i hi hg
end
section
/-! THE FRAME: an abstract state of the whole system (places instead of addresses), a judgement G over it, its rows -/
-- a place: kind, number, house
abbrev Lo : Type := Nat × Nat × Nat
-- a value: int, long, a place or null
abbrev AV : Type := Int32 ⊕ (Int64 ⊕ Option Lo)
-- the state: the ints of each place (fields by their numbers, cells of arrays by their indices), and the houses in the array of states
abbrev Sg : Type := (Lo → Nat → Int32) × (Nat → Nat)
-- the addresses, the classes, the array classes
abbrev EV : Type := (Lo → Nat) × (va_G × (Nat → ClassId))
abbrev vI (x : Int32) : AV := .inl x
abbrev vL (x : Int64) : AV := .inr (.inl x)
abbrev vR (q : Lo) : AV := .inr (.inr (some q))
abbrev vN : AV := .inr (.inr none)
def cv (E : EV) : AV → Value
  | .inl x => .int x
  | .inr (.inl x) => .long x
  | .inr (.inr none) => .null
  | .inr (.inr (some q)) => .ref (E.1 q)
def tMost : Nat → Int32
  | 0 => 8
  | 1 => 6
  | 2 => 12
  | 3 => 6
  | 4 => 1
  | _ => 30
def tWid : Nat → Int32
  | 0 => 7
  | 1 => 5
  | 2 => 5
  | 3 => 2
  | 4 => 4
  | _ => 2
def tLen : Nat → Nat
  | 0 => 56
  | 1 => 30
  | 2 => 60
  | 3 => 12
  | 4 => 4
  | _ => 60
def mLen : Nat → Nat
  | 0 => 162
  | 1 => 162
  | 2 => 972
  | 3 => 60
  | _ => 60
-- a field: an int that changes, a constant, a place
abbrev FS : Type := Option (Int32 ⊕ Lo)
abbrev fc (x : Int32) : FS := some (.inl x)
abbrev fr (q : Lo) : FS := some (.inr q)
-- the shape of a place: class and fields, or kind of array (0 int, 1 char, 2 houses) and length
def shp : Lo → (Nat × List FS) ⊕ (Nat × Nat)
  | (0, j, h) => .inl (3, [fc (tMost j), fc (tWid j), fr (1, j, h), none])
  | (1, j, _) => .inr (0, tLen j)
  | (2, _, h) => .inl (1, [fr (0, 0, h), fr (0, 1, h), fr (0, 2, h), fr (0, 3, h), fr (0, 4, h), none, none, none, none])
  | (3, _, _) => .inl (0, [fr (4, 0, 0), none])
  | (4, 0, 0) => .inr (2, 6)
  | (5, _, _) => .inl (2, [fr (6, 0, 0), none, fr (0, 5, 0)])
  | (6, _, _) => .inr (1, 60)
  | (7, _, _) => .inl (4, [fr (2, 0, 0), fr (2, 0, 1), fr (3, 0, 0), fr (5, 0, 0)])
  | (8, _, _) => .inl (5, [fr (9, 0, 0), fr (9, 1, 0), fr (9, 2, 0), none, fr (9, 3, 0), none, none, none, none, fr (9, 4, 0), none])
  | (_, j, _) => .inr (0, mLen j)
def allLo : List Lo := (List.range 8).flatMap (fun h => (2, 0, h) :: (List.range 5).flatMap (fun j => [(0, j, h), (1, j, h)])) ++ [(0, 5, 0), (1, 5, 0), (3, 0, 0), (4, 0, 0), (5, 0, 0), (6, 0, 0), (7, 0, 0), (8, 0, 0), (9, 0, 0), (9, 1, 0), (9, 2, 0), (9, 3, 0), (9, 4, 0)]
theorem lo_H {h : Nat} (hh : h < 8) : ((2, 0, h) : Lo) ∈ allLo := (by decide +kernel : ∀ h, h < 8 → ((2, 0, h) : Lo) ∈ allLo) h hh
theorem lo_T {j h : Nat} (hj : j < 5) (hh : h < 8) : ((0, j, h) : Lo) ∈ allLo := (by decide +kernel : ∀ h, h < 8 → ∀ j, j < 5 → ((0, j, h) : Lo) ∈ allLo) h hh j hj
theorem lo_A {j h : Nat} (hj : j < 5) (hh : h < 8) : ((1, j, h) : Lo) ∈ allLo := (by decide +kernel : ∀ h, h < 8 → ∀ j, j < 5 → ((1, j, h) : Lo) ∈ allLo) h hh j hj
def okV : AV → Prop
  | .inr (.inr (some q)) => q ∈ allLo
  | _ => True
def fsOk (f : FS) : Bool := match f with
  | some (.inr r) => decide (r ∈ allLo)
  | _ => true
def shOk (q : Lo) : Bool := match shp q with
  | .inl x => x.2.all fsOk
  | .inr _ => true
theorem sh_closed : ∀ q ∈ allLo, shOk q = true := by decide +kernel
-- a field's value
def fv (E : EV) (V : Nat → Int32) (k : Nat) : FS → Value
  | none => .int (V k)
  | some (.inl c) => .int c
  | some (.inr r) => .ref (E.1 r)
def av (V : Nat → Int32) (k : Nat) : FS → AV
  | none => vI (V k)
  | some (.inl c) => vI c
  | some (.inr r) => vR r
theorem cv_av (E : EV) (V : Nat → Int32) (k : Nat) (f : FS) : cv E (av V k f) = fv E V k f := by
  rcases f with _ | c | r <;> rfl
def fvs (E : EV) (V : Nat → Int32) : Nat → List FS → List Value
  | _, [] => []
  | k, f :: r => fv E V k f :: fvs E V (k + 1) r
theorem fvs_len (E : EV) (V : Nat → Int32) : ∀ (l : List FS) (k : Nat), (fvs E V k l).length = l.length
  | [], _ => rfl
  | _ :: r, k => by rw [fvs, List.length_cons, List.length_cons, fvs_len E V r (k + 1)]
theorem fvs_get (E : EV) (V : Nat → Int32) : ∀ (l : List FS) (k i : Nat) (f : FS), l[i]? = some f → (fvs E V k l)[i]? = some (fv E V (k + i) f)
  | [], _, _, _, h => by simp at h
  | g :: r, k, 0, f, h => by
    simp only [List.getElem?_cons_zero, Option.some.injEq] at h
    subst h
    rfl
  | g :: r, k, i + 1, f, h => by
    rw [List.getElem?_cons_succ] at h
    rw [fvs, List.getElem?_cons_succ, fvs_get E V r (k + 1) i f h, show k + 1 + i = k + (i + 1) from by omega]
def upd2 (V : Lo → Nat → Int32) (q : Lo) (k : Nat) (x : Int32) : Lo → Nat → Int32 := fun p => if p = q then upd (V q) k x else V p
theorem upd2_same (V : Lo → Nat → Int32) (q : Lo) (k : Nat) (x : Int32) : upd2 V q k x q = upd (V q) k x := by simp [upd2]
theorem upd2_ne (V : Lo → Nat → Int32) {q p : Lo} (k : Nat) (x : Int32) (h : p ≠ q) : upd2 V q k x p = V p := by simp [upd2, h]
theorem fvs_upd (E : EV) (V : Nat → Int32) (x : Int32) : ∀ (l : List FS) (k i : Nat), l[i]? = some none → fvs E (upd V (k + i) x) k l = (fvs E V k l).set i (.int x)
  | [], _, _, h => by simp at h
  | g :: r, k, 0, h => by
    simp only [List.getElem?_cons_zero, Option.some.injEq] at h
    subst h
    rw [fvs, fvs, List.set_cons_zero]
    have e : ∀ (l : List FS) (m : Nat), k < m → fvs E (upd V (k + 0) x) m l = fvs E V m l := by
      intro l
      induction l with
      | nil => intro m _; rfl
      | cons a l ih =>
        intro m hm
        rw [fvs, fvs, ih (m + 1) (by omega)]
        congr 1
        rcases a with _ | c | q
        · simp [fv, upd, show ¬ m = k from by omega]
        · rfl
        · rfl
    rw [e r (k + 1) (by omega)]
    simp [fv, upd]
  | g :: r, k, i + 1, h => by
    rw [List.getElem?_cons_succ] at h
    rw [fvs, fvs, List.set_cons_succ, show k + (i + 1) = (k + 1) + i from by omega, fvs_upd E V x r (k + 1) i h]
    congr 1
    rcases g with _ | c | q
    · simp [fv, upd, show ¬ k = k + 1 + i from by omega]
    · rfl
    · rfl
def entry (E : EV) (σ : Sg) (q : Lo) : va_E := match shp q with
  | .inl x => .inr (x.1, fvs E (σ.1 q) 0 x.2)
  | .inr (0, n) => .inl (E.2.2 0, n, .inl (σ.1 q))
  | .inr (1, n) => .inl (E.2.2 1, n, .inl (σ.1 q))
  | .inr (_, n) => .inl (E.2.2 2, n, .inr (.inr (.inr (.inr (fun i => some (E.1 (2, 0, σ.2 i)))))))
def wsOf (E : EV) (σ : Sg) : va_W := allLo.map (fun q => (E.1 q, entry E σ q))
def AdOK (E : EV) : Prop := ∀ q ∈ allLo, ∀ p ∈ allLo, E.1 q = E.1 p → q = p
def AE (E : EV) (sz : Nat) : Nat → Prop := fun a => (∃ q ∈ allLo, a = E.1 q) ∨ sz ≤ a
def POK (σ : Sg) : Prop := ∀ i, σ.2 i < 8
def tysOf (E : EV) : List (ClassId × FieldType) := [(E.2.2 0, .int), (E.2.2 1, .char), (E.2.2 2, .object RX1)]
def KE (E : EV) (U : State) : Prop := va_K E.2.1 vwCl (tysOf E) U ∧ ∀ w ∈ nestWs, va_Nw w U
theorem allLo_len : allLo.length = 101 := by decide +kernel
theorem allLo_inj {i j : Nat} {q : Lo} (h1 : allLo[i]? = some q) (h2 : allLo[j]? = some q) : i = j := by
  have hi : i < 101 := by rw [← allLo_len]; exact (List.getElem?_eq_some_iff.mp h1).1
  have hj : j < 101 := by rw [← allLo_len]; exact (List.getElem?_eq_some_iff.mp h2).1
  exact (by decide +kernel : ∀ i, i < 101 → ∀ j, j < 101 → allLo[i]? = allLo[j]? → i = j) i hi j hj (h1.trans h2.symm)
theorem ws_get {E : EV} {σ : Sg} {i : Nat} {q : Lo} (h : allLo[i]? = some q) : (wsOf E σ)[i]? = some (E.1 q, entry E σ q) := by
  rw [wsOf, List.getElem?_map, h]
  rfl
theorem ws_getI {E : EV} {σ : Sg} {i : Nat} {x : Nat × va_E} (h : (wsOf E σ)[i]? = some x) : ∃ q, allLo[i]? = some q ∧ x = (E.1 q, entry E σ q) := by
  rw [wsOf, List.getElem?_map] at h
  cases hq : allLo[i]? with
  | none => rw [hq] at h; cases h
  | some q =>
    rw [hq] at h
    exact ⟨q, rfl, (Option.some.inj h).symm⟩
theorem ws_D {E : EV} {σ : Sg} {sz : Nat} (hE : AdOK E) : va_D (AE E sz) (wsOf E σ) := by
  refine ⟨fun i j p q hi hj hpq => ?_, fun k q hk => ?_⟩
  · obtain ⟨a, ha, rfl⟩ := ws_getI hi
    obtain ⟨b, hb, rfl⟩ := ws_getI hj
    have hab := hE a (List.mem_of_getElem? ha) b (List.mem_of_getElem? hb) hpq
    subst hab
    exact allLo_inj ha hb
  · obtain ⟨a, ha, rfl⟩ := ws_getI hk
    exact Or.inl ⟨a, List.mem_of_getElem? ha, rfl⟩
theorem ws_set {E : EV} {σ σ' : Sg} {i : Nat} {q : Lo} (h : allLo[i]? = some q) (hne : ∀ p, p ≠ q → entry E σ' p = entry E σ p) : (wsOf E σ).set i (E.1 q, entry E σ' q) = wsOf E σ' := by
  apply List.ext_getElem?
  intro k
  by_cases hk : k = i
  · subst hk
    have hl : k < (wsOf E σ).length := by
      rw [wsOf, List.length_map]
      exact (List.getElem?_eq_some_iff.mp h).1
    rw [List.getElem?_set_self hl, ws_get h]
  · rw [List.getElem?_set_ne (Ne.symm hk)]
    rw [wsOf, wsOf, List.getElem?_map, List.getElem?_map]
    cases hp : allLo[k]? with
    | none => rfl
    | some p =>
      have hpq : p ≠ q := by
        intro e
        subst e
        exact hk (allLo_inj hp h)
      show some (E.1 p, entry E σ p) = some (E.1 p, entry E σ' p)
      rw [hne p hpq]
theorem entry_ne {E : EV} {V : Lo → Nat → Int32} {P : Nat → Nat} {q p : Lo} {k : Nat} {x : Int32} (h : p ≠ q) : entry E (upd2 V q k x, P) p = entry E (V, P) p := by
  unfold entry
  rw [show (upd2 V q k x, P).1 p = V p from upd2_ne V k x h]
end
section
/-! locals -/
def gl : List (Option AV) → Nat → Option AV
  | [], _ => none
  | a :: _, 0 => a
  | _ :: r, k + 1 => gl r k
def asl (E : EV) : Nat → List (Option AV) → List (Nat × Value)
  | _, [] => []
  | k, none :: r => asl E (k + 1) r
  | k, some v :: r => (k, cv E v) :: asl E (k + 1) r
theorem asl_mem (E : EV) (j : Nat) (u : Value) : ∀ (loc : List (Option AV)) (k : Nat), (j, u) ∈ asl E k loc ↔ ∃ w, k ≤ j ∧ gl loc (j - k) = some w ∧ u = cv E w
  | [], k => by simp [asl, gl]
  | none :: r, k => by
    rw [asl, asl_mem E j u r (k + 1)]
    constructor
    · rintro ⟨w, h1, h2, h3⟩
      refine ⟨w, by omega, ?_, h3⟩
      rw [show j - k = (j - (k + 1)) + 1 from by omega]
      exact h2
    · rintro ⟨w, h1, h2, h3⟩
      rcases Nat.lt_or_ge k j with q | q
      · refine ⟨w, by omega, ?_, h3⟩
        rw [show j - k = (j - (k + 1)) + 1 from by omega] at h2
        exact h2
      · rw [show j - k = 0 from by omega] at h2
        simp [gl] at h2
  | some v :: r, k => by
    rw [asl, List.mem_cons, asl_mem E j u r (k + 1)]
    constructor
    · rintro (h | ⟨w, h1, h2, h3⟩)
      · cases h
        exact ⟨v, Nat.le_refl _, by rw [Nat.sub_self]; rfl, rfl⟩
      · refine ⟨w, by omega, ?_, h3⟩
        rw [show j - k = (j - (k + 1)) + 1 from by omega]
        exact h2
    · rintro ⟨w, h1, h2, h3⟩
      rcases Nat.lt_or_ge k j with q | q
      · refine Or.inr ⟨w, by omega, ?_, h3⟩
        rw [show j - k = (j - (k + 1)) + 1 from by omega] at h2
        exact h2
      · have e : j = k := by omega
        subst e
        rw [Nat.sub_self] at h2
        have e2 : v = w := Option.some.inj h2
        subst e2
        exact Or.inl (by rw [h3])
theorem LV_get {E : EV} {ls : Array Slot} {nL : Nat} {loc : List (Option AV)} (h : lv_has ls nL (asl E 0 loc)) {k : Nat} {v : AV} (hg : gl loc k = some v) : ls[k]? = some (.val (cv E v)) :=
  h.2.2 (k, cv E v) ((asl_mem E k _ loc 0).mpr ⟨v, Nat.zero_le _, hg, rfl⟩)
theorem gl_set (v : AV) : ∀ (loc : List (Option AV)) (i j : Nat), gl (loc.set i (some v)) j = if j = i ∧ i < loc.length then some v else gl loc j
  | [], i, j => by simp [gl]
  | a :: r, 0, 0 => by simp [gl]
  | a :: r, 0, j + 1 => by simp [gl]
  | a :: r, i + 1, 0 => by simp [gl]
  | a :: r, i + 1, j + 1 => by
    rw [List.set_cons_succ, gl, gl_set v r i j]
    simp [gl]
theorem gl_setN : ∀ (loc : List (Option AV)) (i j : Nat), gl (loc.set i none) j = if j = i ∧ i < loc.length then none else gl loc j
  | [], i, j => by simp [gl]
  | a :: r, 0, 0 => by simp [gl]
  | a :: r, 0, j + 1 => by simp [gl]
  | a :: r, i + 1, 0 => by simp [gl]
  | a :: r, i + 1, j + 1 => by
    rw [List.set_cons_succ, gl, gl_setN r i j]
    simp [gl]
def isL : Option AV → Bool
  | some (.inr (.inl _)) => true
  | _ => false
theorem cv_cat (E : EV) (v : AV) : ((cv E v).category == 2) = isL (some v) := by
  rcases v with x | x | o | q <;> rfl
def st1 (loc : List (Option AV)) (i : Nat) (v : AV) : Option (List (Option AV)) := match i with
  | 0 => some (loc.set 0 (some v))
  | j + 1 => cond (isL (gl loc j)) none (some (loc.set (j + 1) (some v)))
def st2 (loc : List (Option AV)) (i : Nat) (v : AV) : Option (List (Option AV)) := match i with
  | 0 => some ((loc.set 1 none).set 0 (some v))
  | j + 1 => cond (isL (gl loc j)) none (some ((loc.set (j + 2) none).set (j + 1) (some v)))
theorem st1_eq {loc loc' : List (Option AV)} {i : Nat} {v : AV} (h : st1 loc i v = some loc') : loc' = loc.set i (some v) ∧ ∀ j, j + 1 = i → isL (gl loc j) = false := by
  cases i with
  | zero =>
    simp only [st1, Option.some.injEq] at h
    exact ⟨h.symm, fun j hj => by omega⟩
  | succ j =>
    rw [st1] at h
    cases hL : isL (gl loc j) with
    | true => rw [hL] at h; cases h
    | false =>
      rw [hL] at h
      simp only [cond_false, Option.some.injEq] at h
      exact ⟨h.symm, fun k hk => by rw [show k = j from by omega]; exact hL⟩
theorem st2_eq {loc loc' : List (Option AV)} {i : Nat} {v : AV} (h : st2 loc i v = some loc') : loc' = (loc.set (i + 1) none).set i (some v) ∧ ∀ j, j + 1 = i → isL (gl loc j) = false := by
  cases i with
  | zero =>
    simp only [st2, Option.some.injEq] at h
    exact ⟨h.symm, fun j hj => by omega⟩
  | succ j =>
    rw [st2] at h
    cases hL : isL (gl loc j) with
    | true => rw [hL] at h; cases h
    | false =>
      rw [hL] at h
      simp only [cond_false, Option.some.injEq] at h
      exact ⟨h.symm, fun k hk => by rw [show k = j from by omega]; exact hL⟩
theorem st1_sub {E : EV} {ls : Array Slot} {nL : Nat} {loc loc' : List (Option AV)} {i : Nat} {v : AV} (h : st1 loc i v = some loc') (hl : lv_has ls nL ((i, cv E v) :: (asl E 0 loc).filter (fun q => !(q.1 == i) && !(q.1 + 1 == i && q.2.category == 2)))) : lv_has ls nL (asl E 0 loc') := by
  obtain ⟨rfl, hp⟩ := st1_eq h
  refine ⟨hl.1, hl.2.1, fun q hq => hl.2.2 q ?_⟩
  obtain ⟨j, u⟩ := q
  obtain ⟨w, -, h2, rfl⟩ := (asl_mem E j u _ 0).mp hq
  rw [Nat.sub_zero, gl_set] at h2
  by_cases hj : j = i
  · subst hj
    by_cases hlt : j < loc.length
    · rw [if_pos ⟨rfl, hlt⟩] at h2
      have e := Option.some.inj h2
      subst e
      exact List.mem_cons_self
    · have hz : ∀ (l : List (Option AV)) (j : Nat), l.length ≤ j → gl l j = none := by
        intro l
        induction l with
        | nil => intro j _; rfl
        | cons a l ih =>
          intro j hj
          cases j with
          | zero => simp at hj
          | succ j => exact ih j (by simpa using hj)
      rw [if_neg (fun x => hlt x.2), hz loc j (by omega)] at h2
      cases h2
  · rw [if_neg (fun x => hj x.1)] at h2
    refine List.mem_cons_of_mem _ (List.mem_filter.mpr ⟨(asl_mem E j _ loc 0).mpr ⟨w, Nat.zero_le _, h2, rfl⟩, ?_⟩)
    rw [cv_cat]
    by_cases hj1 : j + 1 = i
    · have := hp j hj1
      rw [h2] at this
      simp [this, hj]
    · simp [hj, hj1]
theorem st2_sub {E : EV} {ls : Array Slot} {nL : Nat} {loc loc' : List (Option AV)} {i : Nat} {v : AV} (h : st2 loc i v = some loc') (hl : lv_has ls nL ((i, cv E v) :: (asl E 0 loc).filter (fun q => !(q.1 == i) && (!(q.1 == i + 1) && !(q.1 + 1 == i && q.2.category == 2))))) (hi : i + 1 < loc.length) : lv_has ls nL (asl E 0 loc') := by
  obtain ⟨rfl, hp⟩ := st2_eq h
  refine ⟨hl.1, hl.2.1, fun q hq => hl.2.2 q ?_⟩
  obtain ⟨j, u⟩ := q
  obtain ⟨w, -, h2, rfl⟩ := (asl_mem E j u _ 0).mp hq
  rw [Nat.sub_zero, gl_set, List.length_set] at h2
  by_cases hj : j = i
  · subst hj
    rw [if_pos ⟨rfl, by omega⟩] at h2
    have e := Option.some.inj h2
    subst e
    exact List.mem_cons_self
  · rw [if_neg (fun x => hj x.1), gl_setN] at h2
    by_cases hj2 : j = i + 1
    · rw [if_pos ⟨hj2, hi⟩] at h2
      cases h2
    · rw [if_neg (fun x => hj2 x.1)] at h2
      refine List.mem_cons_of_mem _ (List.mem_filter.mpr ⟨(asl_mem E j _ loc 0).mpr ⟨w, Nat.zero_le _, h2, rfl⟩, ?_⟩)
      rw [cv_cat]
      by_cases hj1 : j + 1 = i
      · have := hp j hj1
        rw [h2] at this
        simp [this, hj, hj2]
      · simp [hj, hj1, hj2]
theorem mem_set {loc : List (Option AV)} {i : Nat} {a b : Option AV} (h : a ∈ loc.set i b) : a = b ∨ a ∈ loc := (List.mem_or_eq_of_mem_set h).symm
theorem ok_set {loc : List (Option AV)} {i : Nat} {v : AV} (h : ∀ w, some w ∈ loc → okV w) (hv : okV v) : ∀ w, some w ∈ loc.set i (some v) → okV w := fun w hw => by
  rcases mem_set hw with q | q
  · cases q; exact hv
  · exact h w q
theorem ok_setN {loc : List (Option AV)} {i : Nat} (h : ∀ w, some w ∈ loc → okV w) : ∀ w, some w ∈ loc.set i none → okV w := fun w hw => by
  rcases mem_set hw with q | q
  · cases q
  · exact h w q
theorem ok_gl {v : AV} : ∀ {loc : List (Option AV)} {k : Nat}, (∀ w, some w ∈ loc → okV w) → gl loc k = some v → okV v
  | [], _, _, hg => by simp [gl] at hg
  | a :: r, 0, h, hg => h v (by rw [show a = some v from hg]; exact List.mem_cons_self)
  | a :: r, k + 1, h, hg => ok_gl (loc := r) (k := k) (fun w hw => h w (List.mem_cons_of_mem _ hw)) hg
theorem ok_tl {a : AV} {r : List AV} (h : ∀ v ∈ a :: r, okV v) : ∀ v ∈ r, okV v := fun v hv => h v (List.mem_cons_of_mem _ hv)
theorem ok_hd {a : AV} {r : List AV} (h : ∀ v ∈ a :: r, okV v) : okV a := h a List.mem_cons_self
theorem ok_cn {a : AV} {r : List AV} (ha : okV a) (h : ∀ v ∈ r, okV v) : ∀ v ∈ a :: r, okV v := fun v hv => by
  rcases List.mem_cons.mp hv with rfl | q
  · exact ha
  · exact h v q
/-! the judgement -/
def Rm (k : Nat) : Room := { frames := k, cells := 0, slots := 0, locals := 32 * k }
def CX (own : String) (cc : ByteArray) (nL : Nat) (ret : Option FieldType) (E : EV) (p : Program) (s : State) (m : MethodId) (args : Array Value) (meth : Method) (c : Code) : Prop :=
  p.tables.exec = Jvm.exec ∧ c.code = cc ∧ c.maxLocals = nL ∧ s.vm.findClass own = some m.cls ∧ (∀ w ∈ TG, w.before args s = true) ∧ meth.sig.returnType = ret ∧ meth.locks = false ∧ KE E s ∧ AdOK E
def BQ (E : EV) (σ : Sg) (t : State) : Prop := POK σ ∧ va_P E.2.1 vwCl (wsOf E σ) t.heap
def QK (ret : Option FieldType) (post : Option AV → Sg → Prop) (E : EV) (A : Nat → Prop) : Array Value → State → Outcome → State → Prop := match ret with
  | none => va_Qv (fun σ : Sg => post none σ) (BQ E) A
  | some (.object _) => va_Qq (fun (r : Option Nat) (σ : Sg) => ∃ o : Option Lo, r = o.map E.1 ∧ okV (.inr (.inr o)) ∧ post (some (.inr (.inr o))) σ) (BQ E) A
  | some _ => va_Qi (fun (r : Int32) (σ : Sg) => post (some (vI r)) σ) (BQ E) A
def G (l : Launch) (R : Room) (own : String) (cc : ByteArray) (nL : Nat) (ret : Option FieldType) (post : Option AV → Sg → Prop) (pc : Nat) (loc : List (Option AV)) (st : List AV) (σ : Sg) : Prop :=
  ∀ (E : EV) (p : Program) (e : Env) (s : State) (m : MethodId) (args : Array Value) (below : List Frame) (meth : Method) (c : Code) (H : Heap) (locs : List Jvm.Loc) (ls : Array Slot),
    CX own cc nL ret E p s m args meth c → POK σ → (∀ v ∈ st, okV v) → (∀ v, some v ∈ loc → okV v) → loc.length = nL → lv_has ls nL (asl E 0 loc) → va_P E.2.1 vwCl (wsOf E σ) H → va_S (AE E s.heap.size) s.heap H locs →
    W p l e R s m args below meth c H locs 0 0 (MQ below (QK ret post E (AE E s.heap.size)) args s 0 0 (AE E s.heap.size)) (F0 m pc ls (st.map (cv E)))
section ROWS
variable {l : Launch} {R : Room} {own : String} {cc : ByteArray} {nL : Nat} {ret : Option FieldType} {post : Option AV → Sg → Prop} {pc : Nat} {loc : List (Option AV)} {st : List AV} {σ : Sg}
theorem g_eq {pc' : Nat} {loc' : List (Option AV)} {st' : List AV} {σ' : Sg} (h1 : pc = pc') (h2 : loc = loc') (h3 : st = st') (h4 : σ = σ') (k : G l R own cc nL ret post pc' loc' st' σ') : G l R own cc nL ret post pc loc st σ := by
  subst h1; subst h2; subst h3; subst h4; exact k
-- fewer locals
def lsub : List (Option AV) → List (Option AV) → Prop
  | [], [] => True
  | a :: r, b :: t => (b = none ∨ b = a) ∧ lsub r t
  | _, _ => False
theorem lsub_gl {v : AV} : ∀ {a b : List (Option AV)} {j : Nat}, lsub a b → gl b j = some v → gl a j = some v
  | [], [], _, _, h => h
  | x :: r, y :: t, 0, h, hg => by
    rcases h.1 with q | q
    · rw [q] at hg; cases hg
    · rw [← q]; exact hg
  | x :: r, y :: t, j + 1, h, hg => lsub_gl (a := r) (b := t) (j := j) h.2 hg
  | [], _ :: _, _, h, _ => h.elim
  | _ :: _, [], _, h, _ => h.elim
theorem lsub_len : ∀ {a b : List (Option AV)}, lsub a b → a.length = b.length
  | [], [], _ => rfl
  | _ :: r, _ :: t, h => by rw [List.length_cons, List.length_cons, lsub_len (a := r) (b := t) h.2]
  | [], _ :: _, h => h.elim
  | _ :: _, [], h => h.elim
theorem lsub_ok : ∀ {a b : List (Option AV)}, lsub a b → (∀ v, some v ∈ a → okV v) → ∀ v, some v ∈ b → okV v
  | [], [], _, h => h
  | x :: r, y :: t, hs, h => fun v hv => by
    rcases List.mem_cons.mp hv with q | q
    · rcases hs.1 with z | z
      · rw [z] at q; cases q
      · exact h v (by rw [q, z]; exact List.mem_cons_self)
    · exact lsub_ok (a := r) (b := t) hs.2 (fun w hw => h w (List.mem_cons_of_mem _ hw)) v q
  | [], _ :: _, h, _ => h.elim
  | _ :: _, [], h, _ => h.elim
theorem g_sub {loc' : List (Option AV)} (h : lsub loc loc') (k : G l R own cc nL ret post pc loc' st σ) : G l R own cc nL ret post pc loc st σ := by
  intro E p e s m args below meth c H locs ls C hσ hst hloc hlen hlv hP hS
  refine k E p e s m args below meth c H locs ls C hσ hst (lsub_ok h hloc) ((lsub_len h).symm.trans hlen) ⟨hlv.1, hlv.2.1, fun q hq => ?_⟩ hP hS
  obtain ⟨j, u⟩ := q
  obtain ⟨w, h1, h2, h3⟩ := (asl_mem E j u _ 0).mp hq
  exact hlv.2.2 (j, u) ((asl_mem E j u _ 0).mpr ⟨w, h1, lsub_gl h h2, h3⟩)
theorem g_iload_n {i : Fin 4} {x : Int32} (hd : decode cc pc = .ok (.iload_n i, 1)) (hl : gl loc i = some (vI x)) (k : G l R own cc nL ret post (pc + 1) loc (vI x :: st) σ) : G l R own cc nL ret post pc loc (st) σ := by
  intro E p e s m args below meth c H locs ls C hσ hst hloc hlen hlv hP hS
  exact lv_iload_n C.1 C.2.1 hd rfl (LV_get hlv hl) (k E p e s m args below meth c H locs ls C hσ (ok_cn (a := vI x) trivial hst) hloc hlen hlv hP hS)
theorem g_iload {i : Nat} {x : Int32} (hd : decode cc pc = .ok (.iload i, 2)) (hl : gl loc i = some (vI x)) (k : G l R own cc nL ret post (pc + 2) loc (vI x :: st) σ) : G l R own cc nL ret post pc loc (st) σ := by
  intro E p e s m args below meth c H locs ls C hσ hst hloc hlen hlv hP hS
  exact lv_iload C.1 C.2.1 hd (LV_get hlv hl) (k E p e s m args below meth c H locs ls C hσ (ok_cn (a := vI x) trivial hst) hloc hlen hlv hP hS)
theorem g_lload_n {i : Fin 4} {x : Int64} (hd : decode cc pc = .ok (.lload_n i, 1)) (hl : gl loc i = some (vL x)) (k : G l R own cc nL ret post (pc + 1) loc (vL x :: st) σ) : G l R own cc nL ret post pc loc (st) σ := by
  intro E p e s m args below meth c H locs ls C hσ hst hloc hlen hlv hP hS
  exact lv_lload_n C.1 C.2.1 hd rfl (LV_get hlv hl) (k E p e s m args below meth c H locs ls C hσ (ok_cn (a := vL x) trivial hst) hloc hlen hlv hP hS)
theorem g_lload {i : Nat} {x : Int64} (hd : decode cc pc = .ok (.lload i, 2)) (hl : gl loc i = some (vL x)) (k : G l R own cc nL ret post (pc + 2) loc (vL x :: st) σ) : G l R own cc nL ret post pc loc (st) σ := by
  intro E p e s m args below meth c H locs ls C hσ hst hloc hlen hlv hP hS
  exact lv_lload C.1 C.2.1 hd (LV_get hlv hl) (k E p e s m args below meth c H locs ls C hσ (ok_cn (a := vL x) trivial hst) hloc hlen hlv hP hS)
theorem g_aload_n {i : Fin 4} {q : Lo} (hd : decode cc pc = .ok (.aload_n i, 1)) (hl : gl loc i = some (vR q)) (k : G l R own cc nL ret post (pc + 1) loc (vR q :: st) σ) : G l R own cc nL ret post pc loc (st) σ := by
  intro E p e s m args below meth c H locs ls C hσ hst hloc hlen hlv hP hS
  exact lv_aload_n C.1 C.2.1 hd rfl (LV_get hlv hl) (k E p e s m args below meth c H locs ls C hσ (ok_cn (ok_gl hloc hl) hst) hloc hlen hlv hP hS)
theorem g_aload_nN {i : Fin 4} (hd : decode cc pc = .ok (.aload_n i, 1)) (hl : gl loc i = some vN) (k : G l R own cc nL ret post (pc + 1) loc (vN :: st) σ) : G l R own cc nL ret post pc loc (st) σ := by
  intro E p e s m args below meth c H locs ls C hσ hst hloc hlen hlv hP hS
  exact lv_aload_nN C.1 C.2.1 hd rfl (LV_get hlv hl) (k E p e s m args below meth c H locs ls C hσ (ok_cn (a := vN) trivial hst) hloc hlen hlv hP hS)
theorem g_iconst {n : Int} (hd : decode cc pc = .ok (.iconst n, 1))  (k : G l R own cc nL ret post (pc + 1) loc (vI (Int32.ofInt n) :: st) σ) : G l R own cc nL ret post pc loc (st) σ := by
  intro E p e s m args below meth c H locs ls C hσ hst hloc hlen hlv hP hS
  exact lv_iconst C.1 C.2.1 hd rfl (k E p e s m args below meth c H locs ls C hσ (ok_cn (a := vI _) trivial hst) hloc hlen hlv hP hS)
theorem g_bipush {n : Int} (hd : decode cc pc = .ok (.bipush n, 2))  (k : G l R own cc nL ret post (pc + 2) loc (vI (Int8.ofInt n).toInt32 :: st) σ) : G l R own cc nL ret post pc loc (st) σ := by
  intro E p e s m args below meth c H locs ls C hσ hst hloc hlen hlv hP hS
  exact lv_bipush C.1 C.2.1 hd rfl (k E p e s m args below meth c H locs ls C hσ (ok_cn (a := vI _) trivial hst) hloc hlen hlv hP hS)
theorem g_sipush {n : Int} (hd : decode cc pc = .ok (.sipush n, 3))  (k : G l R own cc nL ret post (pc + 3) loc (vI (Int16.ofInt n).toInt32 :: st) σ) : G l R own cc nL ret post pc loc (st) σ := by
  intro E p e s m args below meth c H locs ls C hσ hst hloc hlen hlv hP hS
  exact lv_sipush C.1 C.2.1 hd rfl (k E p e s m args below meth c H locs ls C hσ (ok_cn (a := vI _) trivial hst) hloc hlen hlv hP hS)
theorem g_lconst {n : Fin 2} (hd : decode cc pc = .ok (.lconst n, 1))  (k : G l R own cc nL ret post (pc + 1) loc (vL (Int64.ofNat (n : Nat)) :: st) σ) : G l R own cc nL ret post pc loc (st) σ := by
  intro E p e s m args below meth c H locs ls C hσ hst hloc hlen hlv hP hS
  exact lv_lconst C.1 C.2.1 hd rfl (k E p e s m args below meth c H locs ls C hσ (ok_cn (a := vL _) trivial hst) hloc hlen hlv hP hS)
theorem g_null  (hd : decode cc pc = .ok (.aconst_null, 1))  (k : G l R own cc nL ret post (pc + 1) loc (vN :: st) σ) : G l R own cc nL ret post pc loc (st) σ := by
  intro E p e s m args below meth c H locs ls C hσ hst hloc hlen hlv hP hS
  exact lv_null C.1 C.2.1 hd  (k E p e s m args below meth c H locs ls C hσ (ok_cn (a := vN) trivial hst) hloc hlen hlv hP hS)
theorem g_iadd {x y : Int32} (hd : decode cc pc = .ok (.iadd, 1))  (k : G l R own cc nL ret post (pc + 1) loc (vI (x + y) :: st) σ) : G l R own cc nL ret post pc loc (vI y :: vI x :: st) σ := by
  intro E p e s m args below meth c H locs ls C hσ hst hloc hlen hlv hP hS
  exact lv_iadd C.1 C.2.1 hd  (k E p e s m args below meth c H locs ls C hσ (ok_cn (a := vI _) trivial (ok_tl (ok_tl hst))) hloc hlen hlv hP hS)
theorem g_isub {x y : Int32} (hd : decode cc pc = .ok (.isub, 1))  (k : G l R own cc nL ret post (pc + 1) loc (vI (x - y) :: st) σ) : G l R own cc nL ret post pc loc (vI y :: vI x :: st) σ := by
  intro E p e s m args below meth c H locs ls C hσ hst hloc hlen hlv hP hS
  exact lv_isub C.1 C.2.1 hd  (k E p e s m args below meth c H locs ls C hσ (ok_cn (a := vI _) trivial (ok_tl (ok_tl hst))) hloc hlen hlv hP hS)
theorem g_imul {x y : Int32} (hd : decode cc pc = .ok (.imul, 1))  (k : G l R own cc nL ret post (pc + 1) loc (vI (x * y) :: st) σ) : G l R own cc nL ret post pc loc (vI y :: vI x :: st) σ := by
  intro E p e s m args below meth c H locs ls C hσ hst hloc hlen hlv hP hS
  exact lv_imul C.1 C.2.1 hd  (k E p e s m args below meth c H locs ls C hσ (ok_cn (a := vI _) trivial (ok_tl (ok_tl hst))) hloc hlen hlv hP hS)
theorem g_iand {x y : Int32} (hd : decode cc pc = .ok (.iand, 1))  (k : G l R own cc nL ret post (pc + 1) loc (vI (x &&& y) :: st) σ) : G l R own cc nL ret post pc loc (vI y :: vI x :: st) σ := by
  intro E p e s m args below meth c H locs ls C hσ hst hloc hlen hlv hP hS
  exact lv_iand C.1 C.2.1 hd  (k E p e s m args below meth c H locs ls C hσ (ok_cn (a := vI _) trivial (ok_tl (ok_tl hst))) hloc hlen hlv hP hS)
theorem g_ior {x y : Int32} (hd : decode cc pc = .ok (.ior, 1))  (k : G l R own cc nL ret post (pc + 1) loc (vI (x ||| y) :: st) σ) : G l R own cc nL ret post pc loc (vI y :: vI x :: st) σ := by
  intro E p e s m args below meth c H locs ls C hσ hst hloc hlen hlv hP hS
  exact lv_ior C.1 C.2.1 hd  (k E p e s m args below meth c H locs ls C hσ (ok_cn (a := vI _) trivial (ok_tl (ok_tl hst))) hloc hlen hlv hP hS)
theorem g_ishl {x y : Int32} (hd : decode cc pc = .ok (.ishl, 1))  (k : G l R own cc nL ret post (pc + 1) loc (vI (x <<< (y &&& 31)) :: st) σ) : G l R own cc nL ret post pc loc (vI y :: vI x :: st) σ := by
  intro E p e s m args below meth c H locs ls C hσ hst hloc hlen hlv hP hS
  exact lv_ishl C.1 C.2.1 hd  (k E p e s m args below meth c H locs ls C hσ (ok_cn (a := vI _) trivial (ok_tl (ok_tl hst))) hloc hlen hlv hP hS)
theorem g_ishr {x y : Int32} (hd : decode cc pc = .ok (.ishr, 1))  (k : G l R own cc nL ret post (pc + 1) loc (vI (x >>> (y &&& 31)) :: st) σ) : G l R own cc nL ret post pc loc (vI y :: vI x :: st) σ := by
  intro E p e s m args below meth c H locs ls C hσ hst hloc hlen hlv hP hS
  exact lv_ishr C.1 C.2.1 hd  (k E p e s m args below meth c H locs ls C hσ (ok_cn (a := vI _) trivial (ok_tl (ok_tl hst))) hloc hlen hlv hP hS)
theorem g_idiv {x y : Int32} (hd : decode cc pc = .ok (.idiv, 1)) (hy : ¬ y = 0) (k : G l R own cc nL ret post (pc + 1) loc (vI (x / y) :: st) σ) : G l R own cc nL ret post pc loc (vI y :: vI x :: st) σ := by
  intro E p e s m args below meth c H locs ls C hσ hst hloc hlen hlv hP hS
  exact lv_idiv C.1 C.2.1 hd hy (k E p e s m args below meth c H locs ls C hσ (ok_cn (a := vI _) trivial (ok_tl (ok_tl hst))) hloc hlen hlv hP hS)
theorem g_irem {x y : Int32} (hd : decode cc pc = .ok (.irem, 1)) (hy : ¬ y = 0) (k : G l R own cc nL ret post (pc + 1) loc (vI (x - x / y * y) :: st) σ) : G l R own cc nL ret post pc loc (vI y :: vI x :: st) σ := by
  intro E p e s m args below meth c H locs ls C hσ hst hloc hlen hlv hP hS
  exact lv_irem C.1 C.2.1 hd hy (k E p e s m args below meth c H locs ls C hσ (ok_cn (a := vI _) trivial (ok_tl (ok_tl hst))) hloc hlen hlv hP hS)
theorem g_ineg {x : Int32} (hd : decode cc pc = .ok (.ineg, 1))  (k : G l R own cc nL ret post (pc + 1) loc (vI (-x) :: st) σ) : G l R own cc nL ret post pc loc (vI x :: st) σ := by
  intro E p e s m args below meth c H locs ls C hσ hst hloc hlen hlv hP hS
  exact lv_ineg C.1 C.2.1 hd  (k E p e s m args below meth c H locs ls C hσ (ok_cn (a := vI _) trivial (ok_tl hst)) hloc hlen hlv hP hS)
theorem g_land {x y : Int64} (hd : decode cc pc = .ok (.land, 1))  (k : G l R own cc nL ret post (pc + 1) loc (vL (x &&& y) :: st) σ) : G l R own cc nL ret post pc loc (vL y :: vL x :: st) σ := by
  intro E p e s m args below meth c H locs ls C hσ hst hloc hlen hlv hP hS
  exact lv_land C.1 C.2.1 hd  (k E p e s m args below meth c H locs ls C hσ (ok_cn (a := vL _) trivial (ok_tl (ok_tl hst))) hloc hlen hlv hP hS)
theorem g_lor {x y : Int64} (hd : decode cc pc = .ok (.lor, 1))  (k : G l R own cc nL ret post (pc + 1) loc (vL (x ||| y) :: st) σ) : G l R own cc nL ret post pc loc (vL y :: vL x :: st) σ := by
  intro E p e s m args below meth c H locs ls C hσ hst hloc hlen hlv hP hS
  exact lv_lor C.1 C.2.1 hd  (k E p e s m args below meth c H locs ls C hσ (ok_cn (a := vL _) trivial (ok_tl (ok_tl hst))) hloc hlen hlv hP hS)
theorem g_lcmp {x y : Int64} (hd : decode cc pc = .ok (.lcmp, 1))  (k : G l R own cc nL ret post (pc + 1) loc (vI (lg_cmp x y) :: st) σ) : G l R own cc nL ret post pc loc (vL y :: vL x :: st) σ := by
  intro E p e s m args below meth c H locs ls C hσ hst hloc hlen hlv hP hS
  exact W.lcmp C.1 C.2.1 hd  (k E p e s m args below meth c H locs ls C hσ (ok_cn (a := vI _) trivial (ok_tl (ok_tl hst))) hloc hlen hlv hP hS)
theorem g_lushr {x : Int64} {y : Int32} (hd : decode cc pc = .ok (.lushr, 1))  (k : G l R own cc nL ret post (pc + 1) loc (vL ((x.toUInt64 >>> (y.toInt64.toUInt64 &&& Int64.toUInt64 63)).toInt64) :: st) σ) : G l R own cc nL ret post pc loc (vI y :: vL x :: st) σ := by
  intro E p e s m args below meth c H locs ls C hσ hst hloc hlen hlv hP hS
  exact lv_lushr C.1 C.2.1 hd rfl (k E p e s m args below meth c H locs ls C hσ (ok_cn (a := vL _) trivial (ok_tl (ok_tl hst))) hloc hlen hlv hP hS)
theorem g_lshl {x : Int64} {y : Int32} (hd : decode cc pc = .ok (.lshl, 1))  (k : G l R own cc nL ret post (pc + 1) loc (vL (x <<< (y.toInt64 &&& 63)) :: st) σ) : G l R own cc nL ret post pc loc (vI y :: vL x :: st) σ := by
  intro E p e s m args below meth c H locs ls C hσ hst hloc hlen hlv hP hS
  exact lv_lshl C.1 C.2.1 hd rfl (k E p e s m args below meth c H locs ls C hσ (ok_cn (a := vL _) trivial (ok_tl (ok_tl hst))) hloc hlen hlv hP hS)
theorem g_lshr {x : Int64} {y : Int32} (hd : decode cc pc = .ok (.lshr, 1))  (k : G l R own cc nL ret post (pc + 1) loc (vL (x >>> (y.toInt64 &&& 63)) :: st) σ) : G l R own cc nL ret post pc loc (vI y :: vL x :: st) σ := by
  intro E p e s m args below meth c H locs ls C hσ hst hloc hlen hlv hP hS
  exact lv_lshr C.1 C.2.1 hd rfl (k E p e s m args below meth c H locs ls C hσ (ok_cn (a := vL _) trivial (ok_tl (ok_tl hst))) hloc hlen hlv hP hS)
theorem g_i2l {x : Int32} (hd : decode cc pc = .ok (.i2l, 1))  (k : G l R own cc nL ret post (pc + 1) loc (vL x.toInt64 :: st) σ) : G l R own cc nL ret post pc loc (vI x :: st) σ := by
  intro E p e s m args below meth c H locs ls C hσ hst hloc hlen hlv hP hS
  exact lv_i2l C.1 C.2.1 hd rfl (k E p e s m args below meth c H locs ls C hσ (ok_cn (a := vL _) trivial (ok_tl hst)) hloc hlen hlv hP hS)
theorem g_l2i {x : Int64} (hd : decode cc pc = .ok (.l2i, 1))  (k : G l R own cc nL ret post (pc + 1) loc (vI x.toInt32 :: st) σ) : G l R own cc nL ret post pc loc (vL x :: st) σ := by
  intro E p e s m args below meth c H locs ls C hσ hst hloc hlen hlv hP hS
  exact lv_l2i C.1 C.2.1 hd rfl (k E p e s m args below meth c H locs ls C hσ (ok_cn (a := vI _) trivial (ok_tl hst)) hloc hlen hlv hP hS)
theorem g_i2c {x : Int32} (hd : decode cc pc = .ok (.i2c, 1))  (k : G l R own cc nL ret post (pc + 1) loc (vI (x.toUInt32 % 65536).toInt32 :: st) σ) : G l R own cc nL ret post pc loc (vI x :: st) σ := by
  intro E p e s m args below meth c H locs ls C hσ hst hloc hlen hlv hP hS
  exact lv_i2c C.1 C.2.1 hd rfl (k E p e s m args below meth c H locs ls C hσ (ok_cn (a := vI _) trivial (ok_tl hst)) hloc hlen hlv hP hS)
theorem g_dupI {x : Int32} (hd : decode cc pc = .ok (.dup, 1))  (k : G l R own cc nL ret post (pc + 1) loc (vI x :: vI x :: st) σ) : G l R own cc nL ret post pc loc (vI x :: st) σ := by
  intro E p e s m args below meth c H locs ls C hσ hst hloc hlen hlv hP hS
  exact lv_dup C.1 C.2.1 hd rfl (k E p e s m args below meth c H locs ls C hσ (ok_cn (a := vI _) trivial hst) hloc hlen hlv hP hS)
theorem g_dupR {q : Lo} (hd : decode cc pc = .ok (.dup, 1))  (k : G l R own cc nL ret post (pc + 1) loc (vR q :: vR q :: st) σ) : G l R own cc nL ret post pc loc (vR q :: st) σ := by
  intro E p e s m args below meth c H locs ls C hσ hst hloc hlen hlv hP hS
  exact lv_dup C.1 C.2.1 hd rfl (k E p e s m args below meth c H locs ls C hσ (ok_cn (ok_hd hst) hst) hloc hlen hlv hP hS)
theorem g_dup2 {x : Int32} {q : Lo} (hd : decode cc pc = .ok (.dup2, 1))  (k : G l R own cc nL ret post (pc + 1) loc (vI x :: vR q :: vI x :: vR q :: st) σ) : G l R own cc nL ret post pc loc (vI x :: vR q :: st) σ := by
  intro E p e s m args below meth c H locs ls C hσ hst hloc hlen hlv hP hS
  exact lv_dup2_11 C.1 C.2.1 hd rfl rfl (k E p e s m args below meth c H locs ls C hσ (ok_cn (a := vI _) trivial (ok_cn (ok_hd (ok_tl hst)) hst)) hloc hlen hlv hP hS)
theorem g_popI {x : Int32} (hd : decode cc pc = .ok (.pop, 1))  (k : G l R own cc nL ret post (pc + 1) loc (st) σ) : G l R own cc nL ret post pc loc (vI x :: st) σ := by
  intro E p e s m args below meth c H locs ls C hσ hst hloc hlen hlv hP hS
  exact lv_pop C.1 C.2.1 hd rfl (k E p e s m args below meth c H locs ls C hσ (ok_tl hst) hloc hlen hlv hP hS)
theorem g_istore_n {i : Fin 4} {x : Int32} {loc' : List (Option AV)} (hd : decode cc pc = .ok (.istore_n i, 1))  (hi : ((i : Nat) < nL)) (hs : st1 loc i (vI x) = some loc') (k : G l R own cc nL ret post (pc + 1) loc' (st) σ) : G l R own cc nL ret post pc loc (vI x :: st) σ := by
  intro E p e s m args below meth c H locs ls C hσ hst hloc hlen hlv hP hS
  refine lv_istore_n C.1 C.2.1 hd rfl hlv hi rfl (fun ls hl => ?_)
  refine k E p e s m args below meth c H locs ls C hσ (ok_tl hst) ?_ ?_ (st1_sub hs hl) hP hS
  · rw [(st1_eq hs).1]; exact ok_set hloc (v := vI x) trivial
  · rw [(st1_eq hs).1, List.length_set]; exact hlen
theorem g_istore {i : Nat} {x : Int32} {loc' : List (Option AV)} (hd : decode cc pc = .ok (.istore i, 2))  (hi : ((i : Nat) < nL)) (hs : st1 loc i (vI x) = some loc') (k : G l R own cc nL ret post (pc + 2) loc' (st) σ) : G l R own cc nL ret post pc loc (vI x :: st) σ := by
  intro E p e s m args below meth c H locs ls C hσ hst hloc hlen hlv hP hS
  refine lv_istore C.1 C.2.1 hd hlv hi rfl (fun ls hl => ?_)
  refine k E p e s m args below meth c H locs ls C hσ (ok_tl hst) ?_ ?_ (st1_sub hs hl) hP hS
  · rw [(st1_eq hs).1]; exact ok_set hloc (v := vI x) trivial
  · rw [(st1_eq hs).1, List.length_set]; exact hlen
theorem g_lstore_n {i : Fin 4} {x : Int64} {loc' : List (Option AV)} (hd : decode cc pc = .ok (.lstore_n i, 1))  (hi : ((i : Nat) + 1 < nL)) (hs : st2 loc i (vL x) = some loc') (k : G l R own cc nL ret post (pc + 1) loc' (st) σ) : G l R own cc nL ret post pc loc (vL x :: st) σ := by
  intro E p e s m args below meth c H locs ls C hσ hst hloc hlen hlv hP hS
  refine lv_lstore_n C.1 C.2.1 hd rfl hlv hi rfl (fun ls hl => ?_)
  refine k E p e s m args below meth c H locs ls C hσ (ok_tl hst) ?_ ?_ (st2_sub hs hl (by omega)) hP hS
  · rw [(st2_eq hs).1]; exact ok_set (ok_setN hloc) (v := vL x) trivial
  · rw [(st2_eq hs).1, List.length_set, List.length_set]; exact hlen
theorem g_lstore {i : Nat} {x : Int64} {loc' : List (Option AV)} (hd : decode cc pc = .ok (.lstore i, 2))  (hi : ((i : Nat) + 1 < nL)) (hs : st2 loc i (vL x) = some loc') (k : G l R own cc nL ret post (pc + 2) loc' (st) σ) : G l R own cc nL ret post pc loc (vL x :: st) σ := by
  intro E p e s m args below meth c H locs ls C hσ hst hloc hlen hlv hP hS
  refine lv_lstore C.1 C.2.1 hd hlv hi rfl (fun ls hl => ?_)
  refine k E p e s m args below meth c H locs ls C hσ (ok_tl hst) ?_ ?_ (st2_sub hs hl (by omega)) hP hS
  · rw [(st2_eq hs).1]; exact ok_set (ok_setN hloc) (v := vL x) trivial
  · rw [(st2_eq hs).1, List.length_set, List.length_set]; exact hlen
theorem g_astore_n {i : Fin 4} {q : Lo} {loc' : List (Option AV)} (hd : decode cc pc = .ok (.astore_n i, 1))  (hi : ((i : Nat) < nL)) (hs : st1 loc i (vR q) = some loc') (k : G l R own cc nL ret post (pc + 1) loc' (st) σ) : G l R own cc nL ret post pc loc (vR q :: st) σ := by
  intro E p e s m args below meth c H locs ls C hσ hst hloc hlen hlv hP hS
  refine lv_astore_n C.1 C.2.1 hd rfl hlv hi rfl (fun ls hl => ?_)
  refine k E p e s m args below meth c H locs ls C hσ (ok_tl hst) ?_ ?_ (st1_sub hs hl) hP hS
  · rw [(st1_eq hs).1]; exact ok_set hloc (ok_hd hst)
  · rw [(st1_eq hs).1, List.length_set]; exact hlen
theorem g_iinc {i : Nat} {n : Int} {x : Int32} {loc' : List (Option AV)} (hd : decode cc pc = .ok (.iinc i n, 3)) (hl : gl loc i = some (vI x)) (hi : i < nL) (hs : st1 loc i (vI (x + Int32.ofInt n)) = some loc') (k : G l R own cc nL ret post (pc + 3) loc' st σ) : G l R own cc nL ret post pc loc st σ := by
  intro E p e s m args below meth c H locs ls C hσ hst hloc hlen hlv hP hS
  obtain ⟨j, hj⟩ := List.getElem?_of_mem ((asl_mem E i _ loc 0).mpr ⟨vI x, Nat.zero_le _, hl, rfl⟩)
  refine lv_iinc C.1 C.2.1 hd hlv hj rfl hi rfl (fun ls hl => ?_)
  refine k E p e s m args below meth c H locs ls C hσ hst ?_ ?_ (st1_sub hs hl) hP hS
  · rw [(st1_eq hs).1]; exact ok_set hloc (v := vI _) trivial
  · rw [(st1_eq hs).1, List.length_set]; exact hlen
end ROWS
end
section
theorem shp_kind (p : Lo) (x : Nat × Nat) (h : shp p = .inr x) : x.1 < 3 := by
  unfold shp at h
  split at h <;> first | (cases h; done) | (have e := Sum.inr.inj h; subst e; simp)
section ROWS2
variable {l : Launch} {R : Room} {own : String} {cc : ByteArray} {nL : Nat} {ret : Option FieldType} {post : Option AV → Sg → Prop} {pc : Nat} {loc : List (Option AV)} {st : List AV} {σ : Sg}
theorem g_if_eq {x : Int32} {off : Int} {tgt : Nat} (hd : decode cc pc = .ok (.ifCond .eq off, 3)) (ht : (pc : Int) + off = (tgt : Int)) (kt : x = 0 → G l R own cc nL ret post tgt loc st σ) (kf : ¬ x = 0 → G l R own cc nL ret post (pc + 3) loc st σ) : G l R own cc nL ret post pc loc (vI x :: st) σ := by
  intro E p e s m args below meth c H locs ls C hσ hst hloc hlen hlv hP hS
  exact lv_if_eq C.1 C.2.1 hd ht (fun q => kt q E p e s m args below meth c H locs ls C hσ (ok_tl hst) hloc hlen hlv hP hS) (fun q => kf q E p e s m args below meth c H locs ls C hσ (ok_tl hst) hloc hlen hlv hP hS)
theorem g_icmp_eq {x y : Int32} {off : Int} {tgt : Nat} (hd : decode cc pc = .ok (.if_icmp .eq off, 3)) (ht : (pc : Int) + off = (tgt : Int)) (kt : x = y → G l R own cc nL ret post tgt loc st σ) (kf : ¬ x = y → G l R own cc nL ret post (pc + 3) loc st σ) : G l R own cc nL ret post pc loc (vI y :: vI x :: st) σ := by
  intro E p e s m args below meth c H locs ls C hσ hst hloc hlen hlv hP hS
  exact lv_icmp_eq C.1 C.2.1 hd ht (fun q => kt q E p e s m args below meth c H locs ls C hσ (ok_tl (ok_tl hst)) hloc hlen hlv hP hS) (fun q => kf q E p e s m args below meth c H locs ls C hσ (ok_tl (ok_tl hst)) hloc hlen hlv hP hS)
theorem g_if_ne {x : Int32} {off : Int} {tgt : Nat} (hd : decode cc pc = .ok (.ifCond .ne off, 3)) (ht : (pc : Int) + off = (tgt : Int)) (kt : ¬ x = 0 → G l R own cc nL ret post tgt loc st σ) (kf : x = 0 → G l R own cc nL ret post (pc + 3) loc st σ) : G l R own cc nL ret post pc loc (vI x :: st) σ := by
  intro E p e s m args below meth c H locs ls C hσ hst hloc hlen hlv hP hS
  exact lv_if_ne C.1 C.2.1 hd ht (fun q => kt q E p e s m args below meth c H locs ls C hσ (ok_tl hst) hloc hlen hlv hP hS) (fun q => kf q E p e s m args below meth c H locs ls C hσ (ok_tl hst) hloc hlen hlv hP hS)
theorem g_icmp_ne {x y : Int32} {off : Int} {tgt : Nat} (hd : decode cc pc = .ok (.if_icmp .ne off, 3)) (ht : (pc : Int) + off = (tgt : Int)) (kt : ¬ x = y → G l R own cc nL ret post tgt loc st σ) (kf : x = y → G l R own cc nL ret post (pc + 3) loc st σ) : G l R own cc nL ret post pc loc (vI y :: vI x :: st) σ := by
  intro E p e s m args below meth c H locs ls C hσ hst hloc hlen hlv hP hS
  exact lv_icmp_ne C.1 C.2.1 hd ht (fun q => kt q E p e s m args below meth c H locs ls C hσ (ok_tl (ok_tl hst)) hloc hlen hlv hP hS) (fun q => kf q E p e s m args below meth c H locs ls C hσ (ok_tl (ok_tl hst)) hloc hlen hlv hP hS)
theorem g_if_lt {x : Int32} {off : Int} {tgt : Nat} (hd : decode cc pc = .ok (.ifCond .lt off, 3)) (ht : (pc : Int) + off = (tgt : Int)) (kt : x < 0 → G l R own cc nL ret post tgt loc st σ) (kf : ¬ x < 0 → G l R own cc nL ret post (pc + 3) loc st σ) : G l R own cc nL ret post pc loc (vI x :: st) σ := by
  intro E p e s m args below meth c H locs ls C hσ hst hloc hlen hlv hP hS
  exact lv_if_lt C.1 C.2.1 hd ht (fun q => kt q E p e s m args below meth c H locs ls C hσ (ok_tl hst) hloc hlen hlv hP hS) (fun q => kf q E p e s m args below meth c H locs ls C hσ (ok_tl hst) hloc hlen hlv hP hS)
theorem g_icmp_lt {x y : Int32} {off : Int} {tgt : Nat} (hd : decode cc pc = .ok (.if_icmp .lt off, 3)) (ht : (pc : Int) + off = (tgt : Int)) (kt : x < y → G l R own cc nL ret post tgt loc st σ) (kf : ¬ x < y → G l R own cc nL ret post (pc + 3) loc st σ) : G l R own cc nL ret post pc loc (vI y :: vI x :: st) σ := by
  intro E p e s m args below meth c H locs ls C hσ hst hloc hlen hlv hP hS
  exact lv_icmp_lt C.1 C.2.1 hd ht (fun q => kt q E p e s m args below meth c H locs ls C hσ (ok_tl (ok_tl hst)) hloc hlen hlv hP hS) (fun q => kf q E p e s m args below meth c H locs ls C hσ (ok_tl (ok_tl hst)) hloc hlen hlv hP hS)
theorem g_if_ge {x : Int32} {off : Int} {tgt : Nat} (hd : decode cc pc = .ok (.ifCond .ge off, 3)) (ht : (pc : Int) + off = (tgt : Int)) (kt : 0 ≤ x → G l R own cc nL ret post tgt loc st σ) (kf : ¬ 0 ≤ x → G l R own cc nL ret post (pc + 3) loc st σ) : G l R own cc nL ret post pc loc (vI x :: st) σ := by
  intro E p e s m args below meth c H locs ls C hσ hst hloc hlen hlv hP hS
  exact lv_if_ge C.1 C.2.1 hd ht (fun q => kt q E p e s m args below meth c H locs ls C hσ (ok_tl hst) hloc hlen hlv hP hS) (fun q => kf q E p e s m args below meth c H locs ls C hσ (ok_tl hst) hloc hlen hlv hP hS)
theorem g_icmp_ge {x y : Int32} {off : Int} {tgt : Nat} (hd : decode cc pc = .ok (.if_icmp .ge off, 3)) (ht : (pc : Int) + off = (tgt : Int)) (kt : y ≤ x → G l R own cc nL ret post tgt loc st σ) (kf : ¬ y ≤ x → G l R own cc nL ret post (pc + 3) loc st σ) : G l R own cc nL ret post pc loc (vI y :: vI x :: st) σ := by
  intro E p e s m args below meth c H locs ls C hσ hst hloc hlen hlv hP hS
  exact lv_icmp_ge C.1 C.2.1 hd ht (fun q => kt q E p e s m args below meth c H locs ls C hσ (ok_tl (ok_tl hst)) hloc hlen hlv hP hS) (fun q => kf q E p e s m args below meth c H locs ls C hσ (ok_tl (ok_tl hst)) hloc hlen hlv hP hS)
theorem g_if_gt {x : Int32} {off : Int} {tgt : Nat} (hd : decode cc pc = .ok (.ifCond .gt off, 3)) (ht : (pc : Int) + off = (tgt : Int)) (kt : 0 < x → G l R own cc nL ret post tgt loc st σ) (kf : ¬ 0 < x → G l R own cc nL ret post (pc + 3) loc st σ) : G l R own cc nL ret post pc loc (vI x :: st) σ := by
  intro E p e s m args below meth c H locs ls C hσ hst hloc hlen hlv hP hS
  exact lv_if_gt C.1 C.2.1 hd ht (fun q => kt q E p e s m args below meth c H locs ls C hσ (ok_tl hst) hloc hlen hlv hP hS) (fun q => kf q E p e s m args below meth c H locs ls C hσ (ok_tl hst) hloc hlen hlv hP hS)
theorem g_icmp_gt {x y : Int32} {off : Int} {tgt : Nat} (hd : decode cc pc = .ok (.if_icmp .gt off, 3)) (ht : (pc : Int) + off = (tgt : Int)) (kt : y < x → G l R own cc nL ret post tgt loc st σ) (kf : ¬ y < x → G l R own cc nL ret post (pc + 3) loc st σ) : G l R own cc nL ret post pc loc (vI y :: vI x :: st) σ := by
  intro E p e s m args below meth c H locs ls C hσ hst hloc hlen hlv hP hS
  exact lv_icmp_gt C.1 C.2.1 hd ht (fun q => kt q E p e s m args below meth c H locs ls C hσ (ok_tl (ok_tl hst)) hloc hlen hlv hP hS) (fun q => kf q E p e s m args below meth c H locs ls C hσ (ok_tl (ok_tl hst)) hloc hlen hlv hP hS)
theorem g_if_le {x : Int32} {off : Int} {tgt : Nat} (hd : decode cc pc = .ok (.ifCond .le off, 3)) (ht : (pc : Int) + off = (tgt : Int)) (kt : x ≤ 0 → G l R own cc nL ret post tgt loc st σ) (kf : ¬ x ≤ 0 → G l R own cc nL ret post (pc + 3) loc st σ) : G l R own cc nL ret post pc loc (vI x :: st) σ := by
  intro E p e s m args below meth c H locs ls C hσ hst hloc hlen hlv hP hS
  exact lv_if_le C.1 C.2.1 hd ht (fun q => kt q E p e s m args below meth c H locs ls C hσ (ok_tl hst) hloc hlen hlv hP hS) (fun q => kf q E p e s m args below meth c H locs ls C hσ (ok_tl hst) hloc hlen hlv hP hS)
theorem g_icmp_le {x y : Int32} {off : Int} {tgt : Nat} (hd : decode cc pc = .ok (.if_icmp .le off, 3)) (ht : (pc : Int) + off = (tgt : Int)) (kt : x ≤ y → G l R own cc nL ret post tgt loc st σ) (kf : ¬ x ≤ y → G l R own cc nL ret post (pc + 3) loc st σ) : G l R own cc nL ret post pc loc (vI y :: vI x :: st) σ := by
  intro E p e s m args below meth c H locs ls C hσ hst hloc hlen hlv hP hS
  exact lv_icmp_le C.1 C.2.1 hd ht (fun q => kt q E p e s m args below meth c H locs ls C hσ (ok_tl (ok_tl hst)) hloc hlen hlv hP hS) (fun q => kf q E p e s m args below meth c H locs ls C hσ (ok_tl (ok_tl hst)) hloc hlen hlv hP hS)
theorem g_goto {off : Int} {tgt : Nat} (hd : decode cc pc = .ok (.goto off, 3)) (ht : (pc : Int) + off = (tgt : Int)) (k : G l R own cc nL ret post tgt loc st σ) : G l R own cc nL ret post pc loc st σ := by
  intro E p e s m args below meth c H locs ls C hσ hst hloc hlen hlv hP hS
  exact lv_goto C.1 C.2.1 hd ht (k E p e s m args below meth c H locs ls C hσ hst hloc hlen hlv hP hS)
theorem g_ifnull {q : Lo} {off : Int} (hd : decode cc pc = .ok (.ifnull off, 3)) (k : G l R own cc nL ret post (pc + 3) loc st σ) : G l R own cc nL ret post pc loc (vR q :: st) σ := by
  intro E p e s m args below meth c H locs ls C hσ hst hloc hlen hlv hP hS
  exact lv_ifnull C.1 C.2.1 hd (k E p e s m args below meth c H locs ls C hσ (ok_tl hst) hloc hlen hlv hP hS)
theorem g_ifnullN {off : Int} {tgt : Nat} (hd : decode cc pc = .ok (.ifnull off, 3)) (ht : (pc : Int) + off = (tgt : Int)) (k : G l R own cc nL ret post tgt loc st σ) : G l R own cc nL ret post pc loc (vN :: st) σ := by
  intro E p e s m args below meth c H locs ls C hσ hst hloc hlen hlv hP hS
  exact lv_ifnullN C.1 C.2.1 hd ht (k E p e s m args below meth c H locs ls C hσ (ok_tl hst) hloc hlen hlv hP hS)
theorem g_tabO {dflt lo hi : Int} {offs : Array Int} {len : Nat} {x : Int32} {tgt : Nat} (hd : decode cc pc = .ok (.tableswitch dflt lo hi offs, len)) (h : x.toInt < lo ∨ hi < x.toInt) (ht : (pc : Int) + dflt = (tgt : Int)) (k : G l R own cc nL ret post tgt loc st σ) : G l R own cc nL ret post pc loc (vI x :: st) σ := by
  intro E p e s m args below meth c H locs ls C hσ hst hloc hlen hlv hP hS
  exact lv_tableOut C.1 C.2.1 hd h ht (k E p e s m args below meth c H locs ls C hσ (ok_tl hst) hloc hlen hlv hP hS)
theorem g_tabI {dflt lo hi : Int} {offs : Array Int} {len : Nat} {x : Int32} {off : Int} {tgt : Nat} (hd : decode cc pc = .ok (.tableswitch dflt lo hi offs, len)) (h1 : ¬ x.toInt < lo) (h2 : ¬ hi < x.toInt) (ho : offs[(x.toInt - lo).toNat]? = some off) (ht : (pc : Int) + off = (tgt : Int)) (k : G l R own cc nL ret post tgt loc st σ) : G l R own cc nL ret post pc loc (vI x :: st) σ := by
  intro E p e s m args below meth c H locs ls C hσ hst hloc hlen hlv hP hS
  exact lv_tableIn C.1 C.2.1 hd h1 h2 ho ht (k E p e s m args below meth c H locs ls C hσ (ok_tl hst) hloc hlen hlv hP hS)
theorem g_look {dflt : Int} {ps : Array (Int × Int)} {len : Nat} {x : Int32} {off : Int} {tgt : Nat} (hd : decode cc pc = .ok (.lookupswitch dflt ps, len)) (hp : (ps.toList.zip (ps.toList.drop 1)).all (fun (a, next) => a.1 < next.1) = true) (ho : Op.lookupswitch.offset ps.toList dflt x.toInt = off) (ht : (pc : Int) + off = (tgt : Int)) (k : G l R own cc nL ret post tgt loc st σ) : G l R own cc nL ret post pc loc (vI x :: st) σ := by
  intro E p e s m args below meth c H locs ls C hσ hst hloc hlen hlv hP hS
  exact lv_lookup C.1 C.2.1 hd hp ho ht (k E p e s m args below meth c H locs ls C hσ (ok_tl hst) hloc hlen hlv hP hS)
theorem g_ldc {index : Nat} {v : Int32} (hw : Cond.constant own index v ∈ TG) (hd : decode cc pc = .ok (.ldc index, 2)) (k : G l R own cc nL ret post (pc + 2) loc (vI v :: st) σ) : G l R own cc nL ret post pc loc st σ := by
  intro E p e s m args below meth c H locs ls C hσ hst hloc hlen hlv hP hS
  exact lv_ldc C.1 C.2.1 C.2.2.2.1 (C.2.2.2.2.1 _ hw) hd (k E p e s m args below meth c H locs ls C hσ (ok_cn (a := vI v) trivial hst) hloc hlen hlv hP hS)
theorem g_ldc2 {index : Nat} {v : Int64} (hw : Cond.constantLong own index v ∈ TG) (hd : decode cc pc = .ok (.ldc2_w index, 3)) (k : G l R own cc nL ret post (pc + 3) loc (vL v :: st) σ) : G l R own cc nL ret post pc loc st σ := by
  intro E p e s m args below meth c H locs ls C hσ hst hloc hlen hlv hP hS
  exact lv_ldc2 C.1 C.2.1 C.2.2.2.1 (C.2.2.2.2.1 _ hw) hd (k E p e s m args below meth c H locs ls C hσ (ok_cn (a := vL v) trivial hst) hloc hlen hlv hP hS)
-- fields
theorem iw_all (ci : Nat) (r : vw_C) (h : vwCl[ci]? = some r) : ∀ w ∈ u_ws r.1 r.2.1 r.2.2, w ∈ TG := by
  match ci, h with
  | 0, h => cases h; exact iw0
  | 1, h => cases h; exact iw1
  | 2, h => cases h; exact iw2
  | 3, h => cases h; exact iw3
  | 4, h => cases h; exact iw4
  | 5, h => cases h; exact iw5
  | k + 6, h => simp [vwCl] at h
theorem nm_all (ci : Nat) (r : vw_C) (h : vwCl[ci]? = some r) : ∀ a, a < r.2.2 → ∀ b, b < r.2.2 → a ≠ b → (r.2.1 a).2.1 ≠ (r.2.1 b).2.1 := by
  match ci, h with
  | 0, h => cases h; exact nmX0
  | 1, h => cases h; exact nmX1
  | 2, h => cases h; exact nmX2
  | 3, h => cases h; exact nmX3
  | 4, h => cases h; exact nmX4
  | 5, h => cases h; exact nmX5
  | k + 6, h => simp [vwCl] at h
def tyAll : Nat → Nat → FieldType
  | 0 => tyX0
  | 1 => tyX1
  | 2 => tyX2
  | 3 => tyX3
  | 4 => tyX4
  | _ => tyX5
theorem ty_all (ci : Nat) (r : vw_C) (h : vwCl[ci]? = some r) : ∀ k, k < r.2.2 → parseFieldDescriptor (r.2.1 k).2.2.1 = some (tyAll ci k) := by
  match ci, h with
  | 0, h => cases h; exact tyX0_ok
  | 1, h => cases h; exact tyX1_ok
  | 2, h => cases h; exact tyX2_ok
  | 3, h => cases h; exact tyX3_ok
  | 4, h => cases h; exact tyX4_ok
  | 5, h => cases h; exact tyX5_ok
  | k + 6, h => simp [vwCl] at h
theorem dsc_same (ci : Nat) (r : vw_C) (h : vwCl[ci]? = some r) (k : Nat) (hk : k < r.2.2) : (r.2.1 k).1 = r.1 := by
  match ci, h with
  | 0, h => cases h; exact (by decide +kernel : ∀ k, k < 2 → (TX0 k).1 = RX0) k hk
  | 1, h => cases h; exact (by decide +kernel : ∀ k, k < 9 → (TX1 k).1 = RX1) k hk
  | 2, h => cases h; exact (by decide +kernel : ∀ k, k < 3 → (TX2 k).1 = RX2) k hk
  | 3, h => cases h; exact (by decide +kernel : ∀ k, k < 4 → (TX3 k).1 = RX3) k hk
  | 4, h => cases h; exact (by decide +kernel : ∀ k, k < 4 → (TX4 k).1 = RX4) k hk
  | 5, h => cases h; exact (by decide +kernel : ∀ k, k < 11 → (TX5 k).1 = RX5) k hk
  | k + 6, h => simp [vwCl] at h
theorem entry_obj {E : EV} {σ : Sg} {q : Lo} {x : Nat × List FS} (h : shp q = .inl x) : entry E σ q = .inr (x.1, fvs E (σ.1 q) 0 x.2) := by
  unfold entry; rw [h]
theorem entry_int {E : EV} {σ : Sg} {q : Lo} {n : Nat} (h : shp q = .inr (0, n)) : entry E σ q = .inl (E.2.2 0, n, .inl (σ.1 q)) := by
  unfold entry; rw [h]; rfl
theorem entry_chr {E : EV} {σ : Sg} {q : Lo} {n : Nat} (h : shp q = .inr (1, n)) : entry E σ q = .inl (E.2.2 1, n, .inl (σ.1 q)) := by
  unfold entry; rw [h]; rfl
theorem entry_ref {E : EV} {σ : Sg} {q : Lo} {n : Nat} (h : shp q = .inr (2, n)) : entry E σ q = .inl (E.2.2 2, n, .inr (.inr (.inr (.inr (fun i => some (E.1 (2, 0, σ.2 i))))))) := by
  unfold entry; rw [h]; rfl
theorem ok_av {V : Nat → Int32} {k i : Nat} {q : Lo} {x : Nat × List FS} {f : FS} (hq : q ∈ allLo) (h : shp q = .inl x) (hf : x.2[i]? = some f) : okV (av V k f) := by
  have h1 := sh_closed q hq
  unfold shOk at h1
  rw [h] at h1
  have h2 := List.all_eq_true.mp h1 f (List.mem_of_getElem? hf)
  rcases f with _ | c | r
  · trivial
  · trivial
  · have h3 : decide (r ∈ allLo) = true := h2
    exact (of_decide_eq_true h3 : r ∈ allLo)
theorem g_get {fl : List (Nat × Nat × Nat)} (hfl : ∀ e ∈ fl, FLw own e) {index ci k : Nat} {q : Lo} {x : Nat × List FS} {f : FS} (hi : (index, ci, k) ∈ fl) (hsh : shp q = .inl x) (hci : x.1 = ci) (hf : x.2[k]? = some f) (hd : decode cc pc = .ok (.getfield index, 3)) (kk : G l R own cc nL ret post (pc + 3) loc (av (σ.1 q) k f :: st) σ) : G l R own cc nL ret post pc loc (vR q :: st) σ := by
  intro E p e s m args below meth c H locs ls C hσ hst hloc hlen hlv hP hS
  obtain ⟨hx, hb, hml, hown, hts, hr, hlk, hK, hE⟩ := id C
  obtain ⟨r, hr1, hr2, hr3, hr4⟩ := hfl _ hi
  have hq : q ∈ allLo := ok_hd hst
  obtain ⟨i0, hi0⟩ := List.getElem?_of_mem hq
  have hg : (wsOf E σ)[i0]? = some (E.1 q, .inr (ci, fvs E (σ.1 q) 0 x.2)) := by rw [ws_get hi0, entry_obj hsh, hci]
  have hv : (fvs E (σ.1 q) 0 x.2)[k]? = some (cv E (av (σ.1 q) k f)) := by rw [fvs_get E (σ.1 q) x.2 0 k f hf, Nat.zero_add, cv_av]
  have fin := kk E p e s m args below meth c H locs ls C hσ (ok_cn (ok_av hq hsh hf) (ok_tl hst)) hloc hlen hlv hP hS
  rcases hr4 with hw | hw
  · exact va_get hx hb hts (iw_all ci r hr1) hown hK.1 hP i0 hg hr1 k hr2 (hts _ hw) (fun y hy => by rw [← dsc_same ci r hr1 k hr2]; exact hy) hv hd fin
  · exact va_getN hx hb hts (iw_all ci r hr1) hown hK.1 hP i0 hg hr1 k hr2 (va_Nw.use rfl (hK.2 _ hw)) (fun y hy => by rw [← dsc_same ci r hr1 k hr2]; exact hy) hv hd fin
def nfin (ci k : Nat) : Bool := (ci == 0 && k == 1) || (ci == 1 && Nat.ble 5 k) || (ci == 2 && k == 1) || (ci == 3 && k == 3) || (ci == 5 && (k == 3 || (Nat.ble 5 k && !(k == 9))))
def isZ (ci k : Nat) : Bool := (ci == 1 && k == 6) || (ci == 5 && k == 7)
theorem nfin_ok (ci : Nat) (r : vw_C) (h : vwCl[ci]? = some r) (k : Nat) (hk : k < r.2.2) (hn : nfin ci k = true) : (r.2.1 k).2.2.2 = false ∧ tyAll ci k = (if isZ ci k then .boolean else .int) := by
  match ci, h with
  | 0, h => cases h; exact (by decide +kernel : ∀ k, k < 2 → nfin 0 k = true → (TX0 k).2.2.2 = false ∧ tyAll 0 k = (if isZ 0 k then .boolean else .int)) k hk hn
  | 1, h => cases h; exact (by decide +kernel : ∀ k, k < 9 → nfin 1 k = true → (TX1 k).2.2.2 = false ∧ tyAll 1 k = (if isZ 1 k then .boolean else .int)) k hk hn
  | 2, h => cases h; exact (by decide +kernel : ∀ k, k < 3 → nfin 2 k = true → (TX2 k).2.2.2 = false ∧ tyAll 2 k = (if isZ 2 k then .boolean else .int)) k hk hn
  | 3, h => cases h; exact (by decide +kernel : ∀ k, k < 4 → nfin 3 k = true → (TX3 k).2.2.2 = false ∧ tyAll 3 k = (if isZ 3 k then .boolean else .int)) k hk hn
  | 4, h => cases h; exact (by decide +kernel : ∀ k, k < 4 → nfin 4 k = true → (TX4 k).2.2.2 = false ∧ tyAll 4 k = (if isZ 4 k then .boolean else .int)) k hk hn
  | 5, h => cases h; exact (by decide +kernel : ∀ k, k < 11 → nfin 5 k = true → (TX5 k).2.2.2 = false ∧ tyAll 5 k = (if isZ 5 k then .boolean else .int)) k hk hn
  | k + 6, h => simp [vwCl] at h
theorem fvs_updq {E : EV} {V : Lo → Nat → Int32} {P : Nat → Nat} {q : Lo} {k : Nat} {v : Int32} {x : Nat × List FS} (h : shp q = .inl x) (hf : x.2[k]? = some none) : entry E (upd2 V q k v, P) q = .inr (x.1, (fvs E (V q) 0 x.2).set k (.int v)) := by
  rw [entry_obj h]
  show (Sum.inr (x.1, fvs E (upd2 V q k v q) 0 x.2) : va_E) = _
  rw [upd2_same]
  have := fvs_upd E (V q) v x.2 0 k hf
  rw [Nat.zero_add] at this
  rw [this]
theorem g_put {fl : List (Nat × Nat × Nat)} (hfl : ∀ e ∈ fl, FLw own e) {index ci k : Nat} {q : Lo} {x : Nat × List FS} {v : Int32} (hi : (index, ci, k) ∈ fl) (hsh : shp q = .inl x) (hci : x.1 = ci) (hf : x.2[k]? = some none) (hn : nfin ci k = true) (hz : isZ ci k = false ∨ v = 0 ∨ v = 1) (hd : decode cc pc = .ok (.putfield index, 3)) (kk : G l R own cc nL ret post (pc + 3) loc st (upd2 σ.1 q k v, σ.2)) : G l R own cc nL ret post pc loc (vI v :: vR q :: st) σ := by
  intro E p e s m args below meth c H locs ls C hσ hst hloc hlen hlv hP hS
  obtain ⟨hx, hb, hml, hown, hts, hr, hlk, hK, hE⟩ := id C
  obtain ⟨r, hr1, hr2, hr3, hr4⟩ := hfl _ hi
  have hq : q ∈ allLo := ok_hd (ok_tl hst)
  obtain ⟨i0, hi0⟩ := List.getElem?_of_mem hq
  have hg : (wsOf E σ)[i0]? = some (E.1 q, .inr (ci, fvs E (σ.1 q) 0 x.2)) := by rw [ws_get hi0, entry_obj hsh, hci]
  obtain ⟨hfin, hty⟩ := nfin_ok ci r hr1 k hr2 hn
  have hnar : narrow (tyAll ci k) (.int v) = .int v := by
    rw [hty]
    rcases hz with q | q | q
    · rw [q]; rfl
    · subst q; split <;> rfl
    · subst q; split <;> rfl
  have hfit : fits (tyAll ci k) (.int v) = true := by
    rw [hty]
    rcases hz with q | q | q
    · rw [q]; rfl
    · subst q; split <;> rfl
    · subst q; split <;> rfl
  have hl : k < (fvs E (σ.1 q) 0 x.2).length := by
    rw [fvs_len]
    exact (List.getElem?_eq_some_iff.mp hf).1
  have hset : (wsOf E σ).set i0 (E.1 q, .inr (ci, (fvs E (σ.1 q) 0 x.2).set k (.int v))) = wsOf E (upd2 σ.1 q k v, σ.2) := by
    have h1 := ws_set (E := E) (σ := σ) (σ' := (upd2 σ.1 q k v, σ.2)) hi0 (fun p hp => entry_ne (V := σ.1) (P := σ.2) hp)
    rw [fvs_updq (V := σ.1) hsh hf, hci] at h1
    exact h1
  rcases hr4 with hw | hw
  · refine va_put hx hb hts (iw_all ci r hr1) (tyAll ci) (ty_all ci r hr1) (nm_all ci r hr1) hown hK.1 hP (ws_D hE) hS i0 hg hr1 k hr2 (hts _ hw) (fun y hy => by rw [← dsc_same ci r hr1 k hr2]; exact hy) hfin (ty_all ci r hr1 k hr2) hnar hfit hl hd (fun H1 locs1 hP1 hD1 hS1 => ?_)
    have hP1 : va_P E.2.1 vwCl ((wsOf E σ).set i0 (E.1 q, .inr (ci, (fvs E (σ.1 q) 0 x.2).set k (.int v)))) H1 := hP1
    rw [hset] at hP1
    exact kk E p e s m args below meth c H1 locs1 ls C hσ (ok_tl (ok_tl hst)) hloc hlen hlv hP1 hS1
  · refine va_putN hx hb hts (iw_all ci r hr1) (tyAll ci) (ty_all ci r hr1) (nm_all ci r hr1) hown hK.1 hP (ws_D hE) hS i0 hg hr1 k hr2 (va_Nw.use rfl (hK.2 _ hw)) (fun y hy => by rw [← dsc_same ci r hr1 k hr2]; exact hy) hfin (ty_all ci r hr1 k hr2) hnar hfit hl hd (fun H1 locs1 hP1 hD1 hS1 => ?_)
    have hP1 : va_P E.2.1 vwCl ((wsOf E σ).set i0 (E.1 q, .inr (ci, (fvs E (σ.1 q) 0 x.2).set k (.int v)))) H1 := hP1
    rw [hset] at hP1
    exact kk E p e s m args below meth c H1 locs1 ls C hσ (ok_tl (ok_tl hst)) hloc hlen hlv hP1 hS1
-- arrays
theorem g_iald {q : Lo} {n : Nat} {i : Int32} (hsh : shp q = .inr (0, n)) (hin : vp_in i n) (hd : decode cc pc = .ok (.iaload, 1)) (kk : G l R own cc nL ret post (pc + 1) loc (vI (σ.1 q i.toNatClampNeg) :: st) σ) : G l R own cc nL ret post pc loc (vI i :: vR q :: st) σ := by
  intro E p e s m args below meth c H locs ls C hσ hst hloc hlen hlv hP hS
  obtain ⟨hx, hb, hml, hown, hts, hr, hlk, hK, hE⟩ := id C
  have hq : q ∈ allLo := ok_hd (ok_tl hst)
  obtain ⟨i0, hi0⟩ := List.getElem?_of_mem hq
  have hg : (wsOf E σ)[i0]? = some (E.1 q, .inl (E.2.2 0, n, .inl (σ.1 q))) := by rw [ws_get hi0, entry_int hsh]
  exact va_iald hx hb hK.1 hP i0 0 hg rfl hin hd (kk E p e s m args below meth c H locs ls C hσ (ok_cn (a := vI _) trivial (ok_tl (ok_tl hst))) hloc hlen hlv hP hS)
theorem g_cald {q : Lo} {n : Nat} {i : Int32} (hsh : shp q = .inr (1, n)) (hin : vp_in i n) (hd : decode cc pc = .ok (.caload, 1)) (kk : G l R own cc nL ret post (pc + 1) loc (vI (σ.1 q i.toNatClampNeg) :: st) σ) : G l R own cc nL ret post pc loc (vI i :: vR q :: st) σ := by
  intro E p e s m args below meth c H locs ls C hσ hst hloc hlen hlv hP hS
  obtain ⟨hx, hb, hml, hown, hts, hr, hlk, hK, hE⟩ := id C
  have hq : q ∈ allLo := ok_hd (ok_tl hst)
  obtain ⟨i0, hi0⟩ := List.getElem?_of_mem hq
  have hg : (wsOf E σ)[i0]? = some (E.1 q, .inl (E.2.2 1, n, .inl (σ.1 q))) := by rw [ws_get hi0, entry_chr hsh]
  exact va_cald hx hb hK.1 hP i0 1 hg rfl hin hd (kk E p e s m args below meth c H locs ls C hσ (ok_cn (a := vI _) trivial (ok_tl (ok_tl hst))) hloc hlen hlv hP hS)
theorem set_int {E : EV} {σ : Sg} {q : Lo} {n i0 j : Nat} {v : Int32} (hsh : shp q = .inr (0, n)) (hi0 : allLo[i0]? = some q) : (wsOf E σ).set i0 (E.1 q, .inl (E.2.2 0, n, .inl (upd (σ.1 q) j v))) = wsOf E (upd2 σ.1 q j v, σ.2) := by
  have h1 := ws_set (E := E) (σ := σ) (σ' := (upd2 σ.1 q j v, σ.2)) hi0 (fun p hp => entry_ne (V := σ.1) (P := σ.2) hp)
  rw [entry_int hsh] at h1
  rw [show (upd2 σ.1 q j v, σ.2).1 q = upd (σ.1 q) j v from upd2_same σ.1 q j v] at h1
  exact h1
theorem set_chr {E : EV} {σ : Sg} {q : Lo} {n i0 j : Nat} {v : Int32} (hsh : shp q = .inr (1, n)) (hi0 : allLo[i0]? = some q) : (wsOf E σ).set i0 (E.1 q, .inl (E.2.2 1, n, .inl (upd (σ.1 q) j v))) = wsOf E (upd2 σ.1 q j v, σ.2) := by
  have h1 := ws_set (E := E) (σ := σ) (σ' := (upd2 σ.1 q j v, σ.2)) hi0 (fun p hp => entry_ne (V := σ.1) (P := σ.2) hp)
  rw [entry_chr hsh] at h1
  rw [show (upd2 σ.1 q j v, σ.2).1 q = upd (σ.1 q) j v from upd2_same σ.1 q j v] at h1
  exact h1
theorem g_iast {q : Lo} {n : Nat} {i v : Int32} (hsh : shp q = .inr (0, n)) (hin : vp_in i n) (hd : decode cc pc = .ok (.iastore, 1)) (kk : G l R own cc nL ret post (pc + 1) loc st (upd2 σ.1 q i.toNatClampNeg v, σ.2)) : G l R own cc nL ret post pc loc (vI v :: vI i :: vR q :: st) σ := by
  intro E p e s m args below meth c H locs ls C hσ hst hloc hlen hlv hP hS
  obtain ⟨hx, hb, hml, hown, hts, hr, hlk, hK, hE⟩ := id C
  have hq : q ∈ allLo := ok_hd (ok_tl (ok_tl hst))
  obtain ⟨i0, hi0⟩ := List.getElem?_of_mem hq
  have hg : (wsOf E σ)[i0]? = some (E.1 q, .inl (E.2.2 0, n, .inl (σ.1 q))) := by rw [ws_get hi0, entry_int hsh]
  refine va_iast hx hb hK.1 hP (ws_D hE) hS i0 0 hg rfl hin hd (fun H1 locs1 hP1 hD1 hS1 => ?_)
  rw [set_int hsh hi0] at hP1
  exact kk E p e s m args below meth c H1 locs1 ls C hσ (ok_tl (ok_tl (ok_tl hst))) hloc hlen hlv hP1 hS1
theorem g_cast {q : Lo} {n : Nat} {i v : Int32} (hsh : shp q = .inr (1, n)) (hin : vp_in i n) (hd : decode cc pc = .ok (.castore, 1)) (kk : G l R own cc nL ret post (pc + 1) loc st (upd2 σ.1 q i.toNatClampNeg (vp_nar .char v), σ.2)) : G l R own cc nL ret post pc loc (vI v :: vI i :: vR q :: st) σ := by
  intro E p e s m args below meth c H locs ls C hσ hst hloc hlen hlv hP hS
  obtain ⟨hx, hb, hml, hown, hts, hr, hlk, hK, hE⟩ := id C
  have hq : q ∈ allLo := ok_hd (ok_tl (ok_tl hst))
  obtain ⟨i0, hi0⟩ := List.getElem?_of_mem hq
  have hg : (wsOf E σ)[i0]? = some (E.1 q, .inl (E.2.2 1, n, .inl (σ.1 q))) := by rw [ws_get hi0, entry_chr hsh]
  refine va_cast hx hb hK.1 hP (ws_D hE) hS i0 1 hg rfl hin hd (fun H1 locs1 hP1 hD1 hS1 => ?_)
  rw [set_chr hsh hi0] at hP1
  exact kk E p e s m args below meth c H1 locs1 ls C hσ (ok_tl (ok_tl (ok_tl hst))) hloc hlen hlv hP1 hS1
theorem g_alen {q : Lo} {x : Nat × Nat} (hsh : shp q = .inr x) (hx3 : x.1 < 3) (hd : decode cc pc = .ok (.arraylength, 1)) (kk : G l R own cc nL ret post (pc + 1) loc (vI (Int32.ofNat x.2) :: st) σ) : G l R own cc nL ret post pc loc (vR q :: st) σ := by
  intro E p e s m args below meth c H locs ls C hσ hst hloc hlen hlv hP hS
  obtain ⟨hx, hb, hml, hown, hts, hr, hlk, hK, hE⟩ := id C
  have hq : q ∈ allLo := ok_hd hst
  obtain ⟨i0, hi0⟩ := List.getElem?_of_mem hq
  have fin := kk E p e s m args below meth c H locs ls C hσ (ok_cn (a := vI _) trivial (ok_tl hst)) hloc hlen hlv hP hS
  obtain ⟨t, n⟩ := x
  have ht : t = 0 ∨ t = 1 ∨ t = 2 := by simp only at hx3; omega
  rcases ht with rfl | rfl | rfl
  · exact va_alen hx hb hK.1 hP i0 0 ((ws_get hi0).trans (by rw [entry_int hsh])) (x := (n, .inl (σ.1 q))) rfl rfl hd fin
  · exact va_alen hx hb hK.1 hP i0 1 ((ws_get hi0).trans (by rw [entry_chr hsh])) (x := (n, .inl (σ.1 q))) rfl rfl hd fin
  · exact va_alen hx hb hK.1 hP i0 2 ((ws_get hi0).trans (by rw [entry_ref hsh])) (x := (n, .inr (.inr (.inr (.inr (fun i => some (E.1 (2, 0, σ.2 i)))))))) rfl rfl hd fin
theorem g_aald {q : Lo} {n : Nat} {i : Int32} (hsh : shp q = .inr (2, n)) (hin : vp_in i n) (hd : decode cc pc = .ok (.aaload, 1)) (kk : G l R own cc nL ret post (pc + 1) loc (vR (2, 0, σ.2 i.toNatClampNeg) :: st) σ) : G l R own cc nL ret post pc loc (vI i :: vR q :: st) σ := by
  intro E p e s m args below meth c H locs ls C hσ hst hloc hlen hlv hP hS
  obtain ⟨hx, hb, hml, hown, hts, hr, hlk, hK, hE⟩ := id C
  have hq : q ∈ allLo := ok_hd (ok_tl hst)
  obtain ⟨i0, hi0⟩ := List.getElem?_of_mem hq
  have hg : (wsOf E σ)[i0]? = some (E.1 q, .inl (E.2.2 2, n, .inr (.inr (.inr (.inr (fun i => some (E.1 (2, 0, σ.2 i)))))))) := by rw [ws_get hi0, entry_ref hsh]
  exact va_aldq hx hb hK.1 hP i0 2 hg rfl hin hd (kk E p e s m args below meth c H locs ls C hσ (ok_cn (a := vR _) (lo_H (hσ _)) (ok_tl (ok_tl hst))) hloc hlen hlv hP hS)
theorem g_aast {q : Lo} {n h : Nat} {i : Int32} (hh : h < 8) (hsh : shp q = .inr (2, n)) (honly : ∀ p, p ≠ q → ∀ m, shp p ≠ .inr (2, m)) (hin : vp_in i n) (hd : decode cc pc = .ok (.aastore, 1)) (kk : G l R own cc nL ret post (pc + 1) loc st (σ.1, va_up σ.2 i.toNatClampNeg h)) : G l R own cc nL ret post pc loc (vR (2, 0, h) :: vI i :: vR q :: st) σ := by
  intro E p e s m args below meth c H locs ls C hσ hst hloc hlen hlv hP hS
  obtain ⟨hx, hb, hml, hown, hts, hr, hlk, hK, hE⟩ := id C
  have hq : q ∈ allLo := ok_hd (ok_tl (ok_tl hst))
  obtain ⟨i0, hi0⟩ := List.getElem?_of_mem hq
  obtain ⟨i1, hi1⟩ := List.getElem?_of_mem (lo_H hh)
  have hg : (wsOf E σ)[i0]? = some (E.1 q, .inl (E.2.2 2, n, .inr (.inr (.inr (.inr (fun i => some (E.1 (2, 0, σ.2 i)))))))) := by rw [ws_get hi0, entry_ref hsh]
  have hg1 : (wsOf E σ)[i1]? = some (E.1 (2, 0, h), .inr (1, fvs E (σ.1 (2, 0, h)) 0 [fr (0, 0, h), fr (0, 1, h), fr (0, 2, h), fr (0, 3, h), fr (0, 4, h), none, none, none, none])) := by rw [ws_get hi1]; rfl
  refine va_astq hx hb hK.1 hP (ws_D hE) hS i0 2 i1 1 hg rfl hg1 rfl hin hd (fun H1 locs1 hP1 hD1 hS1 => ?_)
  have hset : (wsOf E σ).set i0 (E.1 q, .inl (E.2.2 2, n, .inr (.inr (.inr (.inr (va_up (fun i => some (E.1 (2, 0, σ.2 i))) i.toNatClampNeg (some (E.1 (2, 0, h))))))))) = wsOf E (σ.1, va_up σ.2 i.toNatClampNeg h) := by
    have h1 := ws_set (E := E) (σ := σ) (σ' := (σ.1, va_up σ.2 i.toNatClampNeg h)) hi0 (fun p hp => by
      unfold entry
      cases hs : shp p with
      | inl x => rfl
      | inr x =>
        obtain ⟨t, m⟩ := x
        match t, hs with
        | 0, hs => rfl
        | 1, hs => rfl
        | 2, hs => exact absurd hs (honly p hp m)
        | t + 3, hs => exact absurd (shp_kind p _ hs) (by simp))
    rw [entry_ref hsh] at h1
    rw [← h1]
    have hf : (va_up (fun i => some (E.1 (2, 0, σ.2 i))) i.toNatClampNeg (some (E.1 (2, 0, h)))) = fun j => some (E.1 (2, 0, va_up σ.2 i.toNatClampNeg h j)) := by
      funext j
      simp only [va_up]
      split <;> rfl
    rw [hf]
  rw [hset] at hP1
  refine kk E p e s m args below meth c H1 locs1 ls C (fun j => ?_) (ok_tl (ok_tl (ok_tl hst))) hloc hlen hlv hP1 hS1
  simp only [va_up]
  split
  · exact hh
  · exact hσ j
end ROWS2
end
section
/-! entry, returns, calls -/
def elc : List AV → List (Option AV)
  | [] => []
  | v :: r => cond (isL (some v)) (some v :: none :: elc r) (some v :: elc r)
def eloc (nL : Nat) (as : List AV) : List (Option AV) := elc as ++ List.replicate (nL - (elc as).length) none
theorem asl_none (E : EV) : ∀ (n k : Nat), asl E k (List.replicate n none) = []
  | 0, _ => rfl
  | n + 1, k => by rw [List.replicate_succ, asl, asl_none E n (k + 1)]
theorem elc_sub (E : EV) (n : Nat) : ∀ (as : List AV) (k : Nat), ∀ q ∈ asl E k (elc as ++ List.replicate n none), q ∈ lv_args k (as.map (cv E))
  | [], k => by
    intro q hq
    rw [elc, List.nil_append, asl_none] at hq
    exact absurd hq List.not_mem_nil
  | v :: r, k => by
    intro q hq
    rw [List.map_cons, lv_args]
    have hc := cv_cat E v
    cases hL : isL (some v) with
    | true =>
      rw [elc, hL] at hq
      rw [hL] at hc
      rw [if_pos (by simpa using hc)]
      simp only [cond_true, List.cons_append, asl] at hq
      rcases List.mem_cons.mp hq with h | h
      · rw [h]; exact List.mem_cons_self
      · exact List.mem_cons_of_mem _ (elc_sub E n r (k + 1 + 1) q h)
    | false =>
      rw [elc, hL] at hq
      rw [hL] at hc
      rw [if_neg (by simpa using hc)]
      simp only [cond_false, List.cons_append, asl] at hq
      rcases List.mem_cons.mp hq with h | h
      · rw [h]; exact List.mem_cons_self
      · exact List.mem_cons_of_mem _ (elc_sub E n r (k + 1) q h)
theorem lg_len (E : EV) : ∀ (as : List AV), (lg_sl (as.map (cv E))).length = (elc as).length
  | [] => rfl
  | v :: r => by
    have hc := cv_cat E v
    have ih := lg_len E r
    unfold lg_sl at ih ⊢
    rw [List.map_cons, List.flatMap_cons, List.length_append, ih, elc]
    cases hL : isL (some v) with
    | true =>
      rw [hL] at hc
      rw [if_pos (by simpa using hc)]
      simp only [cond_true, List.length_cons, List.length_nil]
      omega
    | false =>
      rw [hL] at hc
      rw [if_neg (by simpa using hc)]
      simp only [cond_false, List.length_cons, List.length_nil]
      omega
theorem elc_ok : ∀ {as : List AV}, (∀ v ∈ as, okV v) → ∀ v, some v ∈ elc as → okV v
  | [], _, v, hv => absurd hv List.not_mem_nil
  | a :: r, h, v, hv => by
    rw [elc] at hv
    cases hL : isL (some a) with
    | true =>
      rw [hL] at hv
      rcases List.mem_cons.mp hv with q | q
      · rw [Option.some.inj q]; exact ok_hd h
      · rcases List.mem_cons.mp q with z | z
        · cases z
        · exact elc_ok (ok_tl h) v z
    | false =>
      rw [hL] at hv
      rcases List.mem_cons.mp hv with q | q
      · rw [Option.some.inj q]; exact ok_hd h
      · exact elc_ok (ok_tl h) v q
-- a method's contract
def Con (l : Launch) (k : Nat) (y : MethodName) (cc : ByteArray) (nL : Nat) (ret : Option FieldType) (as : List AV) (σ : Sg) (post : Option AV → Sg → Prop) : Prop :=
  ∀ (E : EV), AdOK E → POK σ → (∀ v ∈ as, okV v) → ∀ sz : Nat, Met l y (.code y cc nL ret :: TG) (Rm k) (va_Pc (as.map (cv E)) (fun U => U.heap.size = sz ∧ va_P E.2.1 vwCl (wsOf E σ) U.heap ∧ KE E U)) (QK ret post E (AE E sz)) 0 0 (AE E sz)
section CALLS
variable {l : Launch} {R : Room} {own : String} {cc : ByteArray} {nL : Nat} {ret : Option FieldType} {post : Option AV → Sg → Prop} {pc : Nat} {loc : List (Option AV)} {st : List AV} {σ : Sg}
theorem con_of {k : Nat} {y : MethodName} {as : List AV} (hy : plainName y.cls = true) (hn : (elc as).length ≤ nL) (b : POK σ → (∀ v ∈ as, okV v) → G l (Rm k) y.cls cc nL ret post 0 (eloc nL as) [] σ) : Con l k y cc nL ret as σ post := by
  intro E hE hσ has sz
  refine Met.ofW (cc := cc) (maxL := nL) (ret := ret) hy rfl ?_
  intro p e s m args below meth c s₁ B hml hv
  obtain ⟨rfl, hsz, hP, hK⟩ := hv
  subst hsz
  have hts := atoms_spec (ws := .code y cc nL ret :: TG) B.pre
  have hl := lv_entry (as.map (cv E)) (n := nL) (by rw [lg_len]; exact hn)
  rw [lg_entry_eq]
  generalize (lg_sl (as.map (cv E)) ++ List.replicate (nL - (lg_sl (as.map (cv E))).length) Slot.unset).toArray = ls at hl ⊢
  refine b hσ has E p e s m _ below meth c s.heap [] ls ⟨B.exec, B.bytes, hml, findClass_of_methodNamed B.named, fun w hw => hts w (List.mem_cons_of_mem _ hw), B.returns, B.notSynchronized, hK, hE⟩ hσ (fun v hv => absurd hv List.not_mem_nil) ?_ ?_ ?_ hP va_S.rf
  · intro v hv
    rcases List.mem_append.mp hv with h | h
    · exact elc_ok has v h
    · exact absurd (List.eq_of_mem_replicate h) (by simp)
  · rw [eloc, List.length_append, List.length_replicate]; omega
  · exact ⟨hl.1, hl.2.1, fun q hq => hl.2.2 q (elc_sub E _ as 0 q hq)⟩
theorem con_mono {k : Nat} {y : MethodName} {as : List AV} {post' : Option AV → Sg → Prop} (h : Con l k y cc nL ret as σ post) (hp : ∀ o σ', post o σ' → post' o σ') : Con l k y cc nL ret as σ post' := by
  intro E hE hσ has sz p e ha hc hk s m args below hf hw hpre ht
  obtain ⟨n, o, h1, h2, h3, hQ, hF⟩ := h E hE hσ has sz p e ha hc hk s m args below hf hw hpre ht
  refine ⟨n, o, h1, h2, h3, ?_, hF⟩
  clear h1 h2 h3 hF h
  revert hQ
  match ret with
  | none => exact fun ⟨⟨u, g1, g2, g3⟩, g4⟩ => ⟨⟨u, g1, hp _ _ g2, g3⟩, g4⟩
  | some (.object _) => exact fun ⟨⟨r, u, g1, ⟨oo, g5, g6, g2⟩, g3⟩, g4⟩ => ⟨⟨r, u, g1, ⟨oo, g5, g6, hp _ _ g2⟩, g3⟩, g4⟩
  | some .boolean => exact fun ⟨⟨r, u, g1, g2, g3⟩, g4⟩ => ⟨⟨r, u, g1, hp _ _ g2, g3⟩, g4⟩
  | some .int => exact fun ⟨⟨r, u, g1, g2, g3⟩, g4⟩ => ⟨⟨r, u, g1, hp _ _ g2, g3⟩, g4⟩
  | some .byte => exact fun ⟨⟨r, u, g1, g2, g3⟩, g4⟩ => ⟨⟨r, u, g1, hp _ _ g2, g3⟩, g4⟩
  | some .char => exact fun ⟨⟨r, u, g1, g2, g3⟩, g4⟩ => ⟨⟨r, u, g1, hp _ _ g2, g3⟩, g4⟩
  | some .short => exact fun ⟨⟨r, u, g1, g2, g3⟩, g4⟩ => ⟨⟨r, u, g1, hp _ _ g2, g3⟩, g4⟩
  | some .long => exact fun ⟨⟨r, u, g1, g2, g3⟩, g4⟩ => ⟨⟨r, u, g1, hp _ _ g2, g3⟩, g4⟩
  | some .float => exact fun ⟨⟨r, u, g1, g2, g3⟩, g4⟩ => ⟨⟨r, u, g1, hp _ _ g2, g3⟩, g4⟩
  | some .double => exact fun ⟨⟨r, u, g1, g2, g3⟩, g4⟩ => ⟨⟨r, u, g1, hp _ _ g2, g3⟩, g4⟩
  | some (.array _) => exact fun ⟨⟨r, u, g1, g2, g3⟩, g4⟩ => ⟨⟨r, u, g1, hp _ _ g2, g3⟩, g4⟩
-- returns
theorem g_iret {v : Int32} (hd : decode cc pc = .ok (.ireturn, 1)) (hp : post (some (vI v)) σ) : G l R own cc nL (some .int) post pc loc [vI v] σ := by
  intro E p e s m args below meth c H locs ls C hσ hst hloc hlen hlv hP hS
  exact W.iret C.1 C.2.1 C.2.2.2.2.2.1 (fun t ht hW => ⟨⟨v, σ, rfl, hp, hσ, by rw [ht]; exact hP⟩, hS.F ht⟩) hS.2.2 hd C.2.2.2.2.2.2.1
theorem g_zret {v : Int32} (hd : decode cc pc = .ok (.ireturn, 1)) (hz : v = 0 ∨ v = 1) (hp : post (some (vI v)) σ) : G l R own cc nL (some .boolean) post pc loc [vI v] σ := by
  intro E p e s m args below meth c H locs ls C hσ hst hloc hlen hlv hP hS
  exact W.zret C.1 C.2.1 C.2.2.2.2.2.1 (by rcases hz with q | q <;> subst q <;> rfl) (fun t ht hW => ⟨⟨v, σ, rfl, hp, hσ, by rw [ht]; exact hP⟩, hS.F ht⟩) hS.2.2 hd C.2.2.2.2.2.2.1
theorem g_vret (hd : decode cc pc = .ok (.return_, 1)) (hp : post none σ) : G l R own cc nL none post pc loc [] σ := by
  intro E p e s m args below meth c H locs ls C hσ hst hloc hlen hlv hP hS
  exact W.vret C.1 C.2.1 C.2.2.2.2.2.1 (fun t ht hW => ⟨⟨σ, rfl, hp, hσ, by rw [ht]; exact hP⟩, hS.F ht⟩) hS.2.2 hd C.2.2.2.2.2.2.1
theorem g_aretN {n : String} (hd : decode cc pc = .ok (.areturn, 1)) (hp : post (some vN) σ) : G l R own cc nL (some (.object n)) post pc loc [vN] σ := by
  intro E p e s m args below meth c H locs ls C hσ hst hloc hlen hlv hP hS
  exact W.aret C.1 C.2.1 C.2.2.2.2.2.1 (Or.inl ⟨_, rfl⟩) (Or.inl rfl) (fun t ht hW => ⟨⟨none, σ, rfl, ⟨none, rfl, trivial, hp⟩, hσ, by rw [ht]; exact hP⟩, hS.F ht⟩) hS.2.2 hd C.2.2.2.2.2.2.1
theorem g_aretR {n : String} {q : Lo} (hd : decode cc pc = .ok (.areturn, 1)) (hp : post (some (vR q)) σ) : G l R own cc nL (some (.object n)) post pc loc [vR q] σ := by
  intro E p e s m args below meth c H locs ls C hσ hst hloc hlen hlv hP hS
  exact W.aret C.1 C.2.1 C.2.2.2.2.2.1 (Or.inl ⟨_, rfl⟩) (Or.inr ⟨_, rfl⟩) (fun t ht hW => ⟨⟨some (E.1 q), σ, rfl, ⟨some q, rfl, ok_hd hst, hp⟩, hσ, by rw [ht]; exact hP⟩, hS.F ht⟩) hS.2.2 hd C.2.2.2.2.2.2.1
-- what a callee asks of the tables
def ArOK (y : MethodName) (n : Nat) : Prop := y.cls ≠ "java/lang/invoke/MethodHandle" ∧ y.cls ≠ "java/lang/invoke/VarHandle" ∧ (parseMethodDescriptor y.desc).map (fun d => d.parameters.length) = some n
def MI (y : MethodName) (bytes : ByteArray) (maxL : Nat) (ret : Option FieldType) (n : Nat) : Prop := Cond.code y bytes maxL ret ∈ TG ∧ ArOK y n
theorem good_TG {ws : List Cond} (h : ∀ w ∈ ws, w ∈ TG) : GoodIn TG ws := fun w hw => ⟨h w hw, good_of_word (TG_good w (h w hw))⟩
def isN : Cond → Bool
  | .fieldLinkNest .. => true
  | .methodLinkNest .. => true
  | _ => false
theorem nest_isN : ∀ w ∈ nestWs, isN w = true := by
  intro w hw
  exact List.all_eq_true.mp (by decide +kernel : nestWs.all isN = true) w hw
theorem nest_warm {s U : State} (hW : s.WarmedH U.vm) (h : ∀ w ∈ nestWs, va_Nw w s) : ∀ w ∈ nestWs, va_Nw w U := by
  intro w hw
  have h1 := h w hw
  have h2 := nest_isN w hw
  cases w <;> first | (exact va_Nw.warmF hW h1) | (exact va_Nw.warmM hW h1) | (exact absurd h2 (by simp [isN]))
theorem nest_same {u U : State} (hvm : u.vm = U.vm) (h : ∀ w ∈ nestWs, va_Nw w u) : ∀ w ∈ nestWs, va_Nw w U := by
  intro w hw
  have h1 := h w hw
  have h2 := nest_isN w hw
  cases w <;> first | (exact Bool.noConfusion h2) | (exact va_Nw.same rfl hvm h1)
theorem pre_blind {E : EV} {as : List Value} {σ : Sg} {sz : Nat} : FrameBlind (va_Pc as (fun U => U.heap.size = sz ∧ va_P E.2.1 vwCl (wsOf E σ) U.heap ∧ KE E U)) :=
  fun a U g mk q => ⟨q.1, q.2.1, q.2.2.1, va_K.moved (u := U) (U := U.calling g mk a) (Vm.Alike.refl U.vm) q.2.2.2.1, nest_same (u := U) (U := U.calling g mk a) rfl q.2.2.2.2⟩
theorem pre_at {E : EV} {as : List Value} {σ : Sg} {s : State} {H : Heap} (hP : va_P E.2.1 vwCl (wsOf E σ) H) (hK : KE E s) : ∀ U : State, U.heap = H → s.WarmedH U.vm → va_Pc as (fun U => U.heap.size = H.size ∧ va_P E.2.1 vwCl (wsOf E σ) U.heap ∧ KE E U) as.toArray U :=
  fun U hU hW => ⟨rfl, by rw [hU], by rw [hU]; exact hP, va_K.moved hW.alike hK.1, nest_warm hW hK.2⟩
theorem AE_in {E : EV} {H0 H : Heap} {locs : List Jvm.Loc} (hS : va_S (AE E H0.size) H0 H locs) : ∀ q, AE E H.size q → AE E H0.size q := fun q h => h.elim Or.inl (fun z => Or.inr (Nat.le_trans hS.1 z))
theorem callK {p : Program} {e : Env} {s : State} {m : MethodId} {args : Array Value} {below : List Frame} {meth : Method} {c : Code} {H : Heap} {locs : List Jvm.Loc} {Q : State → Prop} {ls : Array Slot} {rest st0 : List Value} {a : Array Value} {E : EV} {P : Option AV → Sg → Prop}
    (hr : va_Run p l e R s m args below meth c H locs 0 0 0 0 (F0 m pc ls st0) rest (QK ret P E (AE E H.size) a) (AE E H.size)) (hS : va_S (AE E s.heap.size) s.heap H locs)
    (kk : ∀ (o : Option AV) (σ' : Sg) (H1 : Heap) (locs1 : List Jvm.Loc), (∀ v, o = some v → okV v) → P o σ' → POK σ' → va_P E.2.1 vwCl (wsOf E σ') H1 → va_S (AE E s.heap.size) s.heap H1 locs1 → W p l e R s m args below meth c H1 locs1 0 0 Q (F0 m (pc + 3) ls ((o.toList).map (cv E) ++ rest))) : W p l e R s m args below meth c H locs 0 0 Q (F0 m pc ls st0) := by
  have I : ∀ (hr : va_Run p l e R s m args below meth c H locs 0 0 0 0 (F0 m pc ls st0) rest (va_Qi (fun (r : Int32) (σ : Sg) => P (some (vI r)) σ) (BQ E) (AE E H.size) a) (AE E H.size)), W p l e R s m args below meth c H locs 0 0 Q (F0 m pc ls st0) := fun hr =>
    va_calli (a := a) hr hS (fun q _ h => AE_in hS q h) (AE_in hS) (fun r u t H1 locs1 ht hvm hw hB hz hk hS1 => kk (some (vI r)) u H1 locs1 (fun v hv => by cases hv; trivial) hw hB.1 (by rw [← ht]; exact hB.2) hS1)
  match ret, hr with
  | none, hr => exact va_callv (a := a) hr hS (fun q _ h => AE_in hS q h) (AE_in hS) (fun u t H1 locs1 ht hvm hw hB hz hk hS1 => kk none u H1 locs1 (fun v hv => by cases hv) hw hB.1 (by rw [← ht]; exact hB.2) hS1)
  | some (.object _), hr => exact va_callq (a := a) hr hS (fun q _ h => AE_in hS q h) (AE_in hS) (fun r u t H1 locs1 ht hvm hw hB hz hk hS1 => by
      obtain ⟨oo, h1, h2, h3⟩ := hw
      have hfin := kk (some (.inr (.inr oo))) u H1 locs1 (fun v hv => by cases hv; exact h2) h3 hB.1 (by rw [← ht]; exact hB.2) hS1
      subst h1
      cases oo <;> exact hfin)
  | some .boolean, hr => exact I hr
  | some .int, hr => exact I hr
  | some .byte, hr => exact I hr
  | some .char, hr => exact I hr
  | some .short, hr => exact I hr
  | some .long, hr => exact I hr
  | some .float, hr => exact I hr
  | some .double, hr => exact I hr
  | some (.array _), hr => exact I hr
def aCat (v : AV) : Nat := cond (isL (some v)) 2 1
theorem cat_sum (E : EV) : ∀ (st : List AV), ((st.map (cv E)).map fun v => v.category).sum = (st.map aCat).sum
  | [] => rfl
  | v :: r => by
    have h : (cv E v).category = aCat v := by rcases v with x | x | o | q <;> rfl
    rw [List.map_cons, List.map_cons, List.map_cons, List.sum_cons, List.sum_cons, cat_sum E r, h]
theorem g_callV {k idx maxL n : Nat} {y : MethodName} {bytes : ByteArray} {rt : Option FieldType} {P : Option AV → Sg → Prop} (b : Lo) (As : List AV) (rest : List AV) {x : Nat × List FS} {r : vw_C}
    (hl : VLink own idx y) (hm : MI y bytes maxL rt n) (hC : Con l k y bytes maxL rt (vR b :: As) σ P) (hsh : shp b = .inl x) (hc : vwCl[x.1]? = some r) (hcl : r.1 = y.cls) (hn : As.length = n) (hR : k + 1 ≤ R.frames ∧ 8 + (maxL + 11) + 32 * k ≤ R.locals)
    (hs : st = As.reverse ++ vR b :: rest) (hcat : (rest.map aCat).sum ≤ 8) (hd : decode cc pc = .ok (.invokevirtual idx, 3))
    (kk : ∀ (o : Option AV) (σ' : Sg), P o σ' → G l R own cc nL ret post (pc + 3) loc (o.toList ++ rest) σ') : G l R own cc nL ret post pc loc st σ := by
  intro E p e s m args below meth c H locs ls C hσ hst hloc hlen hlv hP hS
  obtain ⟨hx, hb, hml, hown, hts, hr, hlk, hK, hE⟩ := id C
  subst hs
  have hbk : vR b ∈ As.reverse ++ vR b :: rest := List.mem_append_right _ List.mem_cons_self
  have hbo : b ∈ allLo := hst _ hbk
  have has : ∀ v ∈ vR b :: As, okV v := fun v hv => by
    rcases List.mem_cons.mp hv with q | q
    · rw [q]; exact hbo
    · exact hst v (List.mem_append_left _ (List.mem_reverse.mpr q))
  have hrs : ∀ v ∈ rest, okV v := fun v hv => hst v (List.mem_append_right _ (List.mem_cons_of_mem _ hv))
  obtain ⟨i0, hi0⟩ := List.getElem?_of_mem hbo
  have hg : (wsOf E σ)[i0]? = some (E.1 b, .inr (x.1, fvs E (σ.1 b) 0 x.2)) := by rw [ws_get hi0, entry_obj hsh]
  have hrec := va_recv hK.1 hP hc hg
  rw [hcl] at hrec
  have hM := hC E hE hσ has H.size
  have hcw : CallW R s args own y.cls idx y bytes maxL rt (.code y bytes maxL rt :: TG) (Rm k) 0 0 n :=
    cwV n hts (good_TG (fun w hw => by
      rcases List.mem_append.mp hw with h | h
      · simp only [List.mem_cons, List.not_mem_nil, or_false] at h
        rcases h with h | h | h | h
        · rw [h]; exact hl.1
        · rw [h]; exact hl.2.1
        · rw [h]; exact hl.2.2.1
        · rw [h]; exact hl.2.2.2
      · rcases List.mem_cons.mp h with h | h
        · rw [h]; exact hm.1
        · exact h)) rfl rfl rfl ⟨rfl, hm.2⟩ hR
  have hsk : (F0 m pc ls ((As.reverse ++ vR b :: rest).map (cv E))).stack = (As.map (cv E)).reverse ++ .ref (E.1 b) :: rest.map (cv E) := by
    show (As.reverse ++ vR b :: rest).map (cv E) = _
    rw [List.map_append, List.map_cons, List.map_reverse]
    rfl
  refine callK (va_runV (b := E.1 b) (As := As.map (cv E)) (rest := rest.map (cv E)) ⟨hx, hb, hml, hown, hts⟩ hM hcw ⟨pre_blind, hrec, pre_at hP hK⟩ rfl (by rw [List.length_map]; exact hn) hlv.1 hsk (lv_room (by rw [cat_sum]; exact hcat)) hd ⟨Nat.zero_le _, Nat.zero_le _⟩) hS (fun o σ' H1 locs1 hok hPo hσ' hP1 hS1 => ?_)
  rw [← List.map_append]
  refine kk o σ' hPo E p e s m args below meth c H1 locs1 ls C hσ' (fun v hv => ?_) hloc hlen hlv hP1 hS1
  rcases List.mem_append.mp hv with h | h
  · exact hok v (by simpa using h)
  · exact hrs v h
theorem g_callS {k idx maxL n : Nat} {y : MethodName} {bytes : ByteArray} {rt : Option FieldType} {P : Option AV → Sg → Prop} (As : List AV) (rest : List AV)
    (hl : SLink own idx y) (hm : MI y bytes maxL rt n) (hC : Con l k y bytes maxL rt As σ P) (hn : As.length = n) (hR : k + 1 ≤ R.frames ∧ 8 + (maxL + 11) + 32 * k ≤ R.locals)
    (hs : st = As.reverse ++ rest) (hcat : (rest.map aCat).sum ≤ 8) (hd : decode cc pc = .ok (.invokestatic idx, 3))
    (kk : ∀ (o : Option AV) (σ' : Sg), P o σ' → G l R own cc nL ret post (pc + 3) loc (o.toList ++ rest) σ') : G l R own cc nL ret post pc loc st σ := by
  intro E p e s m args below meth c H locs ls C hσ hst hloc hlen hlv hP hS
  obtain ⟨hx, hb, hml, hown, hts, hr, hlk, hK, hE⟩ := id C
  subst hs
  have has : ∀ v ∈ As, okV v := fun v hv => hst v (List.mem_append_left _ (List.mem_reverse.mpr hv))
  have hrs : ∀ v ∈ rest, okV v := fun v hv => hst v (List.mem_append_right _ hv)
  have hM := hC E hE hσ has H.size
  have hcw := va_cwS (own := own) (index := idx) (y := y) (R := R) (args := args) (s := s) (bytes := bytes) (maxL := maxL) (ret := rt) (rm := Rm k) (mc := 0) (ms := 0) (ws := .code y bytes maxL rt :: TG) (ws' := TG) (Ts := TG) n hts (good_TG (fun w hw => by
      rcases List.mem_append.mp hw with h | h
      · simp only [List.mem_cons, List.not_mem_nil, or_false] at h
        rcases h with h | h | h
        · rw [h]; exact hl.1
        · rw [h]; exact hl.2.1
        · rw [h]; exact hl.2.2
      · rcases List.mem_cons.mp h with h | h
        · rw [h]; exact hm.1
        · exact h)) rfl rfl rfl hm.2 hR
  have hsk : (F0 m pc ls ((As.reverse ++ rest).map (cv E))).stack = (As.map (cv E)).reverse ++ rest.map (cv E) := by
    show (As.reverse ++ rest).map (cv E) = _
    rw [List.map_append, List.map_reverse]
  refine callK (va_runS (As := As.map (cv E)) (rest := rest.map (cv E)) ⟨hx, hb, hml, hown, hts⟩ hM hcw ⟨pre_blind, pre_at hP hK⟩ rfl (by rw [List.length_map]; exact hn) hlv.1 hsk (lv_room (by rw [cat_sum]; exact hcat)) hd ⟨Nat.zero_le _, Nat.zero_le _⟩) hS (fun o σ' H1 locs1 hok hPo hσ' hP1 hS1 => ?_)
  rw [← List.map_append]
  refine kk o σ' hPo E p e s m args below meth c H1 locs1 ls C hσ' (fun v hv => ?_) hloc hlen hlv hP1 hS1
  rcases List.mem_append.mp hv with h | h
  · exact hok v (by simpa using h)
  · exact hrs v h
theorem g_callN {k idx maxL n : Nat} {y : MethodName} {bytes : ByteArray} {rt : Option FieldType} {P : Option AV → Sg → Prop} (As : List AV) (rest : List AV)
    (hw : Cond.methodLinkNest own idx y RX4 ∈ nestWs) (hl : NLink y) (hm : MI y bytes maxL rt n) (hC : Con l k y bytes maxL rt As σ P) (hn : As.length = n) (hR : k + 1 ≤ R.frames ∧ 8 + (maxL + 11) + 32 * k ≤ R.locals)
    (hs : st = As.reverse ++ rest) (hcat : (rest.map aCat).sum ≤ 8) (hd : decode cc pc = .ok (.invokestatic idx, 3))
    (kk : ∀ (o : Option AV) (σ' : Sg), P o σ' → G l R own cc nL ret post (pc + 3) loc (o.toList ++ rest) σ') : G l R own cc nL ret post pc loc st σ := by
  intro E p e s m args below meth c H locs ls C hσ hst hloc hlen hlv hP hS
  obtain ⟨hx, hb, hml, hown, hts, hr, hlk, hK, hE⟩ := id C
  subst hs
  have has : ∀ v ∈ As, okV v := fun v hv => hst v (List.mem_append_left _ (List.mem_reverse.mpr hv))
  have hrs : ∀ v ∈ rest, okV v := fun v hv => hst v (List.mem_append_right _ hv)
  have hM := hC E hE hσ has H.size
  have hcw := va_cnB (own := own) (host := RX4) (index := idx) (y := y) (R := R) (args := args) (s := s) (bytes := bytes) (maxL := maxL) (ret := rt) (rm := Rm k) (mc := 0) (ms := 0) (ws := .code y bytes maxL rt :: TG) (ws' := TG) (Ts := TG) n hts (good_TG (fun w hw => by
      rcases List.mem_cons.mp hw with h | h
      · rw [h]; exact hm.1
      · exact h)) rfl rfl rfl (hK.2 _ hw) (hts _ hl.2) hm.2 hR
  have hsk : (F0 m pc ls ((As.reverse ++ rest).map (cv E))).stack = (As.map (cv E)).reverse ++ rest.map (cv E) := by
    show (As.reverse ++ rest).map (cv E) = _
    rw [List.map_append, List.map_reverse]
  refine callK (va_runSN (As := As.map (cv E)) (rest := rest.map (cv E)) ⟨hx, hb, hml, hown, hts⟩ hM ⟨hcw, hts _ hl.1, trivial⟩ ⟨pre_blind, pre_at hP hK⟩ rfl (by rw [List.length_map]; exact hn) hlv.1 hsk (lv_room (by rw [cat_sum]; exact hcat)) hd ⟨Nat.zero_le _, Nat.zero_le _⟩) hS (fun o σ' H1 locs1 hok hPo hσ' hP1 hS1 => ?_)
  rw [← List.map_append]
  refine kk o σ' hPo E p e s m args below meth c H1 locs1 ls C hσ' (fun v hv => ?_) hloc hlen hlv hP1 hS1
  rcases List.mem_append.mp hv with h | h
  · exact hok v (by simpa using h)
  · exact hrs v h
end CALLS
theorem mi_X4_init : MI yX4_init cX4_init 1 none 0 := ⟨cd_X4_init, by unfold ArOK; decide +kernel⟩
theorem pn_X4_init : plainName yX4_init.cls = true := by decide +kernel
theorem mi_X1_init : MI yX1_init cX1_init 1 none 0 := ⟨cd_X1_init, by unfold ArOK; decide +kernel⟩
theorem pn_X1_init : plainName yX1_init.cls = true := by decide +kernel
theorem mi_X3_init : MI yX3_init cX3_init 3 none 2 := ⟨cd_X3_init, by unfold ArOK; decide +kernel⟩
theorem pn_X3_init : plainName yX3_init.cls = true := by decide +kernel
theorem mi_X3_append : MI yX3_append cX3_append 3 (some .int) 0 := ⟨cd_X3_append, by unfold ArOK; decide +kernel⟩
theorem pn_X3_append : plainName yX3_append.cls = true := by decide +kernel
theorem mi_X3_isFull : MI yX3_isFull cX3_isFull 1 (some .boolean) 0 := ⟨cd_X3_isFull, by unfold ArOK; decide +kernel⟩
theorem pn_X3_isFull : plainName yX3_isFull.cls = true := by decide +kernel
theorem mi_X3_write : MI yX3_write cX3_write 5 none 3 := ⟨cd_X3_write, by unfold ArOK; decide +kernel⟩
theorem pn_X3_write : plainName yX3_write.cls = true := by decide +kernel
theorem mi_X0_init : MI yX0_init cX0_init 2 none 0 := ⟨cd_X0_init, by unfold ArOK; decide +kernel⟩
theorem pn_X0_init : plainName yX0_init.cls = true := by decide +kernel
theorem mi_X2_init : MI yX2_init cX2_init 1 none 0 := ⟨cd_X2_init, by unfold ArOK; decide +kernel⟩
theorem pn_X2_init : plainName yX2_init.cls = true := by decide +kernel
theorem mi_X4_resident : MI yX4_resident cX4_resident 2 (some .int) 1 := ⟨cd_X4_resident, by unfold ArOK; decide +kernel⟩
theorem pn_X4_resident : plainName yX4_resident.cls = true := by decide +kernel
theorem mi_X4_isWeight : MI yX4_isWeight cX4_isWeight 1 (some .boolean) 1 := ⟨cd_X4_isWeight, by unfold ArOK; decide +kernel⟩
theorem pn_X4_isWeight : plainName yX4_isWeight.cls = true := by decide +kernel
theorem mi_X4_isIn : MI yX4_isIn cX4_isIn 3 (some .boolean) 3 := ⟨cd_X4_isIn, by unfold ArOK; decide +kernel⟩
theorem pn_X4_isIn : plainName yX4_isIn.cls = true := by decide +kernel
theorem mi_X0_keep : MI yX0_keep cX0_keep 3 none 1 := ⟨cd_X0_keep, by unfold ArOK; decide +kernel⟩
theorem pn_X0_keep : plainName yX0_keep.cls = true := by decide +kernel
theorem mi_X0_dropOldest : MI yX0_dropOldest cX0_dropOldest 3 none 0 := ⟨cd_X0_dropOldest, by unfold ArOK; decide +kernel⟩
theorem pn_X0_dropOldest : plainName yX0_dropOldest.cls = true := by decide +kernel
theorem mi_X0_stateAt : MI yX0_stateAt cX0_stateAt 2 (some (.object "CleaningRota$House")) 1 := ⟨cd_X0_stateAt, by unfold ArOK; decide +kernel⟩
theorem pn_X0_stateAt : plainName yX0_stateAt.cls = true := by decide +kernel
theorem mi_X1_copyFrom : MI yX1_copyFrom cX1_copyFrom 2 none 1 := ⟨cd_X1_copyFrom, by unfold ArOK; decide +kernel⟩
theorem pn_X1_copyFrom : plainName yX1_copyFrom.cls = true := by decide +kernel
theorem mi_X3_copyFrom : MI yX3_copyFrom cX3_copyFrom 2 none 1 := ⟨cd_X3_copyFrom, by unfold ArOK; decide +kernel⟩
theorem pn_X3_copyFrom : plainName yX3_copyFrom.cls = true := by decide +kernel
theorem mi_X1_addResident : MI yX1_addResident cX1_addResident 3 (some .int) 1 := ⟨cd_X1_addResident, by unfold ArOK; decide +kernel⟩
theorem pn_X1_addResident : plainName yX1_addResident.cls = true := by decide +kernel
theorem mi_X4_weigh : MI yX4_weigh cX4_weigh 3 (some .int) 2 := ⟨cd_X4_weigh, by unfold ArOK; decide +kernel⟩
theorem pn_X4_weigh : plainName yX4_weigh.cls = true := by decide +kernel
theorem mi_X3_has : MI yX3_has cX3_has 2 (some .boolean) 1 := ⟨cd_X3_has, by unfold ArOK; decide +kernel⟩
theorem pn_X3_has : plainName yX3_has.cls = true := by decide +kernel
theorem mi_X3_exchange : MI yX3_exchange cX3_exchange 5 (some .int) 3 := ⟨cd_X3_exchange, by unfold ArOK; decide +kernel⟩
theorem pn_X3_exchange : plainName yX3_exchange.cls = true := by decide +kernel
theorem mi_X3_cell : MI yX3_cell cX3_cell 4 (some .int) 2 := ⟨cd_X3_cell, by unfold ArOK; decide +kernel⟩
theorem pn_X3_cell : plainName yX3_cell.cls = true := by decide +kernel
theorem mi_X4_away : MI yX4_away cX4_away 4 (some .int) 3 := ⟨cd_X4_away, by unfold ArOK; decide +kernel⟩
theorem pn_X4_away : plainName yX4_away.cls = true := by decide +kernel
theorem mi_X1_isAway : MI yX1_isAway cX1_isAway 2 (some .boolean) 1 := ⟨cd_X1_isAway, by unfold ArOK; decide +kernel⟩
theorem pn_X1_isAway : plainName yX1_isAway.cls = true := by decide +kernel
theorem mi_X4_bit : MI yX4_bit cX4_bit 1 (some .int) 1 := ⟨cd_X4_bit, by unfold ArOK; decide +kernel⟩
theorem pn_X4_bit : plainName yX4_bit.cls = true := by decide +kernel
theorem mi_X4_area : MI yX4_area cX4_area 4 (some .int) 3 := ⟨cd_X4_area, by unfold ArOK; decide +kernel⟩
theorem pn_X4_area : plainName yX4_area.cls = true := by decide +kernel
theorem mi_X1_addArea : MI yX1_addArea cX1_addArea 5 (some .int) 3 := ⟨cd_X1_addArea, by unfold ArOK; decide +kernel⟩
theorem pn_X1_addArea : plainName yX1_addArea.cls = true := by decide +kernel
theorem mi_X4_set : MI yX4_set cX4_set 3 (some .int) 2 := ⟨cd_X4_set, by unfold ArOK; decide +kernel⟩
theorem pn_X4_set : plainName yX4_set.cls = true := by decide +kernel
theorem mi_X4_isSettingValue : MI yX4_isSettingValue cX4_isSettingValue 2 (some .boolean) 2 := ⟨cd_X4_isSettingValue, by unfold ArOK; decide +kernel⟩
theorem pn_X4_isSettingValue : plainName yX4_isSettingValue.cls = true := by decide +kernel
theorem mi_X4_plan : MI yX4_plan cX4_plan 1 (some .int) 0 := ⟨cd_X4_plan, by unfold ArOK; decide +kernel⟩
theorem pn_X4_plan : plainName yX4_plan.cls = true := by decide +kernel
theorem mi_X1_planWeek : MI yX1_planWeek cX1_planWeek 2 (some .int) 0 := ⟨cd_X1_planWeek, by unfold ArOK; decide +kernel⟩
theorem pn_X1_planWeek : plainName yX1_planWeek.cls = true := by decide +kernel
theorem mi_X1_leastLoaded : MI yX1_leastLoaded cX1_leastLoaded 5 (some .int) 1 := ⟨cd_X1_leastLoaded, by unfold ArOK; decide +kernel⟩
theorem pn_X1_leastLoaded : plainName yX1_leastLoaded.cls = true := by decide +kernel
theorem mi_X3_size : MI yX3_size cX3_size 1 (some .int) 0 := ⟨cd_X3_size, by unfold ArOK; decide +kernel⟩
theorem pn_X3_size : plainName yX3_size.cls = true := by decide +kernel
theorem mi_X1_goesAhead : MI yX1_goesAhead cX1_goesAhead 5 (some .boolean) 2 := ⟨cd_X1_goesAhead, by unfold ArOK; decide +kernel⟩
theorem pn_X1_goesAhead : plainName yX1_goesAhead.cls = true := by decide +kernel
theorem mi_X1_loadOf : MI yX1_loadOf cX1_loadOf 2 (some .int) 1 := ⟨cd_X1_loadOf, by unfold ArOK; decide +kernel⟩
theorem pn_X1_loadOf : plainName yX1_loadOf.cls = true := by decide +kernel
theorem mi_X1_makeTasks : MI yX1_makeTasks cX1_makeTasks 6 none 0 := ⟨cd_X1_makeTasks, by unfold ArOK; decide +kernel⟩
theorem pn_X1_makeTasks : plainName yX1_makeTasks.cls = true := by decide +kernel
theorem mi_X1_areaOfNextTask : MI yX1_areaOfNextTask cX1_areaOfNextTask 6 (some .int) 1 := ⟨cd_X1_areaOfNextTask, by unfold ArOK; decide +kernel⟩
theorem pn_X1_areaOfNextTask : plainName yX1_areaOfNextTask.cls = true := by decide +kernel
theorem mi_X1_effortOfTask : MI yX1_effortOfTask cX1_effortOfTask 3 (some .int) 1 := ⟨cd_X1_effortOfTask, by unfold ArOK; decide +kernel⟩
theorem pn_X1_effortOfTask : plainName yX1_effortOfTask.cls = true := by decide +kernel
theorem mi_X1_needsDeepClean : MI yX1_needsDeepClean cX1_needsDeepClean 2 (some .boolean) 1 := ⟨cd_X1_needsDeepClean, by unfold ArOK; decide +kernel⟩
theorem pn_X1_needsDeepClean : plainName yX1_needsDeepClean.cls = true := by decide +kernel
theorem mi_X1_isDue : MI yX1_isDue cX1_isDue 3 (some .boolean) 1 := ⟨cd_X1_isDue, by unfold ArOK; decide +kernel⟩
theorem pn_X1_isDue : plainName yX1_isDue.cls = true := by decide +kernel
theorem mi_X1_addTask : MI yX1_addTask cX1_addTask 5 none 3 := ⟨cd_X1_addTask, by unfold ArOK; decide +kernel⟩
theorem pn_X1_addTask : plainName yX1_addTask.cls = true := by decide +kernel
theorem mi_X1_giveTasks : MI yX1_giveTasks cX1_giveTasks 3 none 0 := ⟨cd_X1_giveTasks, by unfold ArOK; decide +kernel⟩
theorem pn_X1_giveTasks : plainName yX1_giveTasks.cls = true := by decide +kernel
theorem mi_X1_hasTwinAhead : MI yX1_hasTwinAhead cX1_hasTwinAhead 2 (some .boolean) 1 := ⟨cd_X1_hasTwinAhead, by unfold ArOK; decide +kernel⟩
theorem pn_X1_hasTwinAhead : plainName yX1_hasTwinAhead.cls = true := by decide +kernel
theorem mi_X3_increase : MI yX3_increase cX3_increase 4 none 3 := ⟨cd_X3_increase, by unfold ArOK; decide +kernel⟩
theorem pn_X3_increase : plainName yX3_increase.cls = true := by decide +kernel
theorem mi_X4_done : MI yX4_done cX4_done 2 (some .int) 1 := ⟨cd_X4_done, by unfold ArOK; decide +kernel⟩
theorem pn_X4_done : plainName yX4_done.cls = true := by decide +kernel
theorem mi_X1_isOpen : MI yX1_isOpen cX1_isOpen 2 (some .boolean) 1 := ⟨cd_X1_isOpen, by unfold ArOK; decide +kernel⟩
theorem pn_X1_isOpen : plainName yX1_isOpen.cls = true := by decide +kernel
theorem mi_X1_finish : MI yX1_finish cX1_finish 4 (some .int) 1 := ⟨cd_X1_finish, by unfold ArOK; decide +kernel⟩
theorem pn_X1_finish : plainName yX1_finish.cls = true := by decide +kernel
theorem mi_X1_isTwinOpen : MI yX1_isTwinOpen cX1_isTwinOpen 2 (some .boolean) 1 := ⟨cd_X1_isTwinOpen, by unfold ArOK; decide +kernel⟩
theorem pn_X1_isTwinOpen : plainName yX1_isTwinOpen.cls = true := by decide +kernel
theorem mi_X1_clean : MI yX1_clean cX1_clean 2 none 1 := ⟨cd_X1_clean, by unfold ArOK; decide +kernel⟩
theorem pn_X1_clean : plainName yX1_clean.cls = true := by decide +kernel
theorem mi_X1_dropSwapsWith : MI yX1_dropSwapsWith cX1_dropSwapsWith 3 none 1 := ⟨cd_X1_dropSwapsWith, by unfold ArOK; decide +kernel⟩
theorem pn_X1_dropSwapsWith : plainName yX1_dropSwapsWith.cls = true := by decide +kernel
theorem mi_X3_remove : MI yX3_remove cX3_remove 4 none 1 := ⟨cd_X3_remove, by unfold ArOK; decide +kernel⟩
theorem pn_X3_remove : plainName yX3_remove.cls = true := by decide +kernel
theorem mi_X4_extra : MI yX4_extra cX4_extra 3 (some .int) 2 := ⟨cd_X4_extra, by unfold ArOK; decide +kernel⟩
theorem pn_X4_extra : plainName yX4_extra.cls = true := by decide +kernel
theorem mi_X1_payDebt : MI yX1_payDebt cX1_payDebt 4 (some .int) 2 := ⟨cd_X1_payDebt, by unfold ArOK; decide +kernel⟩
theorem pn_X1_payDebt : plainName yX1_payDebt.cls = true := by decide +kernel
theorem mi_X4_end : MI yX4_end cX4_end 1 (some .int) 0 := ⟨cd_X4_end, by unfold ArOK; decide +kernel⟩
theorem pn_X4_end : plainName yX4_end.cls = true := by decide +kernel
theorem mi_X1_endWeek : MI yX1_endWeek cX1_endWeek 3 (some .int) 0 := ⟨cd_X1_endWeek, by unfold ArOK; decide +kernel⟩
theorem pn_X1_endWeek : plainName yX1_endWeek.cls = true := by decide +kernel
theorem mi_X1_countOpenTasks : MI yX1_countOpenTasks cX1_countOpenTasks 3 (some .int) 0 := ⟨cd_X1_countOpenTasks, by unfold ArOK; decide +kernel⟩
theorem pn_X1_countOpenTasks : plainName yX1_countOpenTasks.cls = true := by decide +kernel
theorem mi_X1_skip : MI yX1_skip cX1_skip 4 none 1 := ⟨cd_X1_skip, by unfold ArOK; decide +kernel⟩
theorem pn_X1_skip : plainName yX1_skip.cls = true := by decide +kernel
theorem mi_X3_clear : MI yX3_clear cX3_clear 1 none 0 := ⟨cd_X3_clear, by unfold ArOK; decide +kernel⟩
theorem pn_X3_clear : plainName yX3_clear.cls = true := by decide +kernel
theorem mi_X1_decayPoints : MI yX1_decayPoints cX1_decayPoints 3 none 0 := ⟨cd_X1_decayPoints, by unfold ArOK; decide +kernel⟩
theorem pn_X1_decayPoints : plainName yX1_decayPoints.cls = true := by decide +kernel
theorem mi_X1_growDirt : MI yX1_growDirt cX1_growDirt 3 none 0 := ⟨cd_X1_growDirt, by unfold ArOK; decide +kernel⟩
theorem pn_X1_growDirt : plainName yX1_growDirt.cls = true := by decide +kernel
theorem mi_X4_propose : MI yX4_propose cX4_propose 3 (some .int) 2 := ⟨cd_X4_propose, by unfold ArOK; decide +kernel⟩
theorem pn_X4_propose : plainName yX4_propose.cls = true := by decide +kernel
theorem mi_X1_canExchange : MI yX1_canExchange cX1_canExchange 3 (some .boolean) 2 := ⟨cd_X1_canExchange, by unfold ArOK; decide +kernel⟩
theorem pn_X1_canExchange : plainName yX1_canExchange.cls = true := by decide +kernel
theorem mi_X1_isProposed : MI yX1_isProposed cX1_isProposed 4 (some .boolean) 2 := ⟨cd_X1_isProposed, by unfold ArOK; decide +kernel⟩
theorem pn_X1_isProposed : plainName yX1_isProposed.cls = true := by decide +kernel
theorem mi_X1_addSwap : MI yX1_addSwap cX1_addSwap 4 (some .int) 2 := ⟨cd_X1_addSwap, by unfold ArOK; decide +kernel⟩
theorem pn_X1_addSwap : plainName yX1_addSwap.cls = true := by decide +kernel
theorem mi_X4_answer : MI yX4_answer cX4_answer 3 (some .int) 2 := ⟨cd_X4_answer, by unfold ArOK; decide +kernel⟩
theorem pn_X4_answer : plainName yX4_answer.cls = true := by decide +kernel
theorem mi_X1_acceptSwap : MI yX1_acceptSwap cX1_acceptSwap 7 (some .int) 1 := ⟨cd_X1_acceptSwap, by unfold ArOK; decide +kernel⟩
theorem pn_X1_acceptSwap : plainName yX1_acceptSwap.cls = true := by decide +kernel
theorem mi_X1_gainOfExchange : MI yX1_gainOfExchange cX1_gainOfExchange 3 (some .int) 2 := ⟨cd_X1_gainOfExchange, by unfold ArOK; decide +kernel⟩
theorem pn_X1_gainOfExchange : plainName yX1_gainOfExchange.cls = true := by decide +kernel
theorem mi_X1_declineSwap : MI yX1_declineSwap cX1_declineSwap 2 (some .int) 1 := ⟨cd_X1_declineSwap, by unfold ArOK; decide +kernel⟩
theorem pn_X1_declineSwap : plainName yX1_declineSwap.cls = true := by decide +kernel
theorem mi_X4_about : MI yX4_about cX4_about 3 (some .int) 2 := ⟨cd_X4_about, by unfold ArOK; decide +kernel⟩
theorem pn_X4_about : plainName yX4_about.cls = true := by decide +kernel
theorem mi_X1_rateOf : MI yX1_rateOf cX1_rateOf 4 (some .int) 2 := ⟨cd_X1_rateOf, by unfold ArOK; decide +kernel⟩
theorem pn_X1_rateOf : plainName yX1_rateOf.cls = true := by decide +kernel
theorem mi_X1_countOpenTasksOf : MI yX1_countOpenTasksOf cX1_countOpenTasksOf 4 (some .int) 1 := ⟨cd_X1_countOpenTasksOf, by unfold ArOK; decide +kernel⟩
theorem pn_X1_countOpenTasksOf : plainName yX1_countOpenTasksOf.cls = true := by decide +kernel
theorem mi_X1_isOpenTaskOf : MI yX1_isOpenTaskOf cX1_isOpenTaskOf 3 (some .boolean) 2 := ⟨cd_X1_isOpenTaskOf, by unfold ArOK; decide +kernel⟩
theorem pn_X1_isOpenTaskOf : plainName yX1_isOpenTaskOf.cls = true := by decide +kernel
theorem mi_X1_firstOpenTaskOf : MI yX1_firstOpenTaskOf cX1_firstOpenTaskOf 3 (some .int) 1 := ⟨cd_X1_firstOpenTaskOf, by unfold ArOK; decide +kernel⟩
theorem pn_X1_firstOpenTaskOf : plainName yX1_firstOpenTaskOf.cls = true := by decide +kernel
theorem mi_X4_room : MI yX4_room cX4_room 3 (some .int) 2 := ⟨cd_X4_room, by unfold ArOK; decide +kernel⟩
theorem pn_X4_room : plainName yX4_room.cls = true := by decide +kernel
theorem mi_X4_task : MI yX4_task cX4_task 3 (some .int) 2 := ⟨cd_X4_task, by unfold ArOK; decide +kernel⟩
theorem pn_X4_task : plainName yX4_task.cls = true := by decide +kernel
theorem mi_X4_swap : MI yX4_swap cX4_swap 5 (some .int) 2 := ⟨cd_X4_swap, by unfold ArOK; decide +kernel⟩
theorem pn_X4_swap : plainName yX4_swap.cls = true := by decide +kernel
theorem mi_X4_count : MI yX4_count cX4_count 2 (some .int) 1 := ⟨cd_X4_count, by unfold ArOK; decide +kernel⟩
theorem pn_X4_count : plainName yX4_count.cls = true := by decide +kernel
theorem mi_X1_spread : MI yX1_spread cX1_spread 1 (some .int) 0 := ⟨cd_X1_spread, by unfold ArOK; decide +kernel⟩
theorem pn_X1_spread : plainName yX1_spread.cls = true := by decide +kernel
theorem mi_X1_spreadOf : MI yX1_spreadOf cX1_spreadOf 11 (some .int) 4 := ⟨cd_X1_spreadOf, by unfold ArOK; decide +kernel⟩
theorem pn_X1_spreadOf : plainName yX1_spreadOf.cls = true := by decide +kernel
theorem mi_X1_plannedSpread : MI yX1_plannedSpread cX1_plannedSpread 1 (some .int) 0 := ⟨cd_X1_plannedSpread, by unfold ArOK; decide +kernel⟩
theorem pn_X1_plannedSpread : plainName yX1_plannedSpread.cls = true := by decide +kernel
theorem mi_X4_forecast : MI yX4_forecast cX4_forecast 5 (some .int) 2 := ⟨cd_X4_forecast, by unfold ArOK; decide +kernel⟩
theorem pn_X4_forecast : plainName yX4_forecast.cls = true := by decide +kernel
theorem mi_X1_countOpenDeepTasks : MI yX1_countOpenDeepTasks cX1_countOpenDeepTasks 3 (some .int) 0 := ⟨cd_X1_countOpenDeepTasks, by unfold ArOK; decide +kernel⟩
theorem pn_X1_countOpenDeepTasks : plainName yX1_countOpenDeepTasks.cls = true := by decide +kernel
theorem mi_X1_finishOpenTasks : MI yX1_finishOpenTasks cX1_finishOpenTasks 1 none 0 := ⟨cd_X1_finishOpenTasks, by unfold ArOK; decide +kernel⟩
theorem pn_X1_finishOpenTasks : plainName yX1_finishOpenTasks.cls = true := by decide +kernel
theorem mi_X1_finishFromTo : MI yX1_finishFromTo cX1_finishFromTo 4 none 2 := ⟨cd_X1_finishFromTo, by unfold ArOK; decide +kernel⟩
theorem pn_X1_finishFromTo : plainName yX1_finishFromTo.cls = true := by decide +kernel
theorem mi_X1_greatestDirt : MI yX1_greatestDirt cX1_greatestDirt 3 (some .int) 0 := ⟨cd_X1_greatestDirt, by unfold ArOK; decide +kernel⟩
theorem pn_X1_greatestDirt : plainName yX1_greatestDirt.cls = true := by decide +kernel
theorem mi_X4_fairer : MI yX4_fairer cX4_fairer 8 (some .int) 1 := ⟨cd_X4_fairer, by unfold ArOK; decide +kernel⟩
theorem pn_X4_fairer : plainName yX4_fairer.cls = true := by decide +kernel
theorem mi_X1_spreadIfExchanged : MI yX1_spreadIfExchanged cX1_spreadIfExchanged 5 (some .int) 2 := ⟨cd_X1_spreadIfExchanged, by unfold ArOK; decide +kernel⟩
theorem pn_X1_spreadIfExchanged : plainName yX1_spreadIfExchanged.cls = true := by decide +kernel
theorem mi_X4_put : MI yX4_put cX4_put 4 (some .int) 1 := ⟨cd_X4_put, by unfold ArOK; decide +kernel⟩
theorem pn_X4_put : plainName yX4_put.cls = true := by decide +kernel
theorem mi_X2_countCharacters : MI yX2_countCharacters cX2_countCharacters 7 (some .int) 1 := ⟨cd_X2_countCharacters, by unfold ArOK; decide +kernel⟩
theorem pn_X2_countCharacters : plainName yX2_countCharacters.cls = true := by decide +kernel
theorem mi_X2_append : MI yX2_append cX2_append 5 none 2 := ⟨cd_X2_append, by unfold ArOK; decide +kernel⟩
theorem pn_X2_append : plainName yX2_append.cls = true := by decide +kernel
theorem mi_X4_wipe : MI yX4_wipe cX4_wipe 2 (some .int) 0 := ⟨cd_X4_wipe, by unfold ArOK; decide +kernel⟩
theorem pn_X4_wipe : plainName yX4_wipe.cls = true := by decide +kernel
theorem mi_X4_fault : MI yX4_fault cX4_fault 1 (some .int) 0 := ⟨cd_X4_fault, by unfold ArOK; decide +kernel⟩
theorem pn_X4_fault : plainName yX4_fault.cls = true := by decide +kernel
theorem mi_X2_read : MI yX2_read cX2_read 7 (some .int) 0 := ⟨cd_X2_read, by unfold ArOK; decide +kernel⟩
theorem pn_X2_read : plainName yX2_read.cls = true := by decide +kernel
theorem mi_X2_endOfNumber : MI yX2_endOfNumber cX2_endOfNumber 3 (some .int) 1 := ⟨cd_X2_endOfNumber, by unfold ArOK; decide +kernel⟩
theorem pn_X2_endOfNumber : plainName yX2_endOfNumber.cls = true := by decide +kernel
theorem mi_X2_isDigitAt : MI yX2_isDigitAt cX2_isDigitAt 2 (some .boolean) 1 := ⟨cd_X2_isDigitAt, by unfold ArOK; decide +kernel⟩
theorem pn_X2_isDigitAt : plainName yX2_isDigitAt.cls = true := by decide +kernel
theorem mi_X2_characterAt : MI yX2_characterAt cX2_characterAt 2 (some .int) 1 := ⟨cd_X2_characterAt, by unfold ArOK; decide +kernel⟩
theorem pn_X2_characterAt : plainName yX2_characterAt.cls = true := by decide +kernel
theorem mi_X2_numberIn : MI yX2_numberIn cX2_numberIn 5 (some .int) 2 := ⟨cd_X2_numberIn, by unfold ArOK; decide +kernel⟩
theorem pn_X2_numberIn : plainName yX2_numberIn.cls = true := by decide +kernel
theorem mi_X2_addPart : MI yX2_addPart cX2_addPart 4 none 2 := ⟨cd_X2_addPart, by unfold ArOK; decide +kernel⟩
theorem pn_X2_addPart : plainName yX2_addPart.cls = true := by decide +kernel
theorem mi_X4_load : MI yX4_load cX4_load 3 (some .int) 0 := ⟨cd_X4_load, by unfold ArOK; decide +kernel⟩
theorem pn_X4_load : plainName yX4_load.cls = true := by decide +kernel
theorem mi_X4_undo : MI yX4_undo cX4_undo 1 (some .int) 0 := ⟨cd_X4_undo, by unfold ArOK; decide +kernel⟩
theorem pn_X4_undo : plainName yX4_undo.cls = true := by decide +kernel
theorem mi_X0_restore : MI yX0_restore cX0_restore 3 none 1 := ⟨cd_X0_restore, by unfold ArOK; decide +kernel⟩
theorem pn_X0_restore : plainName yX0_restore.cls = true := by decide +kernel
theorem mi_X5_init : MI yX5_init cX5_init 1 none 0 := ⟨cd_X5_init, by unfold ArOK; decide +kernel⟩
theorem pn_X5_init : plainName yX5_init.cls = true := by decide +kernel
theorem mi_X5_resident : MI yX5_resident cX5_resident 3 (some .int) 1 := ⟨cd_X5_resident, by unfold ArOK; decide +kernel⟩
theorem pn_X5_resident : plainName yX5_resident.cls = true := by decide +kernel
theorem mi_X5_in : MI yX5_in cX5_in 3 (some .boolean) 3 := ⟨cd_X5_in, by unfold ArOK; decide +kernel⟩
theorem pn_X5_in : plainName yX5_in.cls = true := by decide +kernel
theorem mi_X5_keep : MI yX5_keep cX5_keep 2 none 0 := ⟨cd_X5_keep, by unfold ArOK; decide +kernel⟩
theorem pn_X5_keep : plainName yX5_keep.cls = true := by decide +kernel
theorem mi_X5_lay : MI yX5_lay cX5_lay 4 none 3 := ⟨cd_X5_lay, by unfold ArOK; decide +kernel⟩
theorem pn_X5_lay : plainName yX5_lay.cls = true := by decide +kernel
theorem mi_X5_weigh : MI yX5_weigh cX5_weigh 4 (some .int) 2 := ⟨cd_X5_weigh, by unfold ArOK; decide +kernel⟩
theorem pn_X5_weigh : plainName yX5_weigh.cls = true := by decide +kernel
theorem mi_X5_isResident : MI yX5_isResident cX5_isResident 2 (some .boolean) 1 := ⟨cd_X5_isResident, by unfold ArOK; decide +kernel⟩
theorem pn_X5_isResident : plainName yX5_isResident.cls = true := by decide +kernel
theorem mi_X5_of : MI yX5_of cX5_of 3 (some .int) 2 := ⟨cd_X5_of, by unfold ArOK; decide +kernel⟩
theorem pn_X5_of : plainName yX5_of.cls = true := by decide +kernel
theorem mi_X5_away : MI yX5_away cX5_away 4 (some .int) 3 := ⟨cd_X5_away, by unfold ArOK; decide +kernel⟩
theorem pn_X5_away : plainName yX5_away.cls = true := by decide +kernel
theorem mi_X5_isAway : MI yX5_isAway cX5_isAway 2 (some .boolean) 1 := ⟨cd_X5_isAway, by unfold ArOK; decide +kernel⟩
theorem pn_X5_isAway : plainName yX5_isAway.cls = true := by decide +kernel
theorem mi_X5_area : MI yX5_area cX5_area 5 (some .int) 3 := ⟨cd_X5_area, by unfold ArOK; decide +kernel⟩
theorem pn_X5_area : plainName yX5_area.cls = true := by decide +kernel
theorem mi_X5_layArea : MI yX5_layArea cX5_layArea 4 none 3 := ⟨cd_X5_layArea, by unfold ArOK; decide +kernel⟩
theorem pn_X5_layArea : plainName yX5_layArea.cls = true := by decide +kernel
theorem mi_X5_set : MI yX5_set cX5_set 4 (some .int) 2 := ⟨cd_X5_set, by unfold ArOK; decide +kernel⟩
theorem pn_X5_set : plainName yX5_set.cls = true := by decide +kernel
theorem mi_X5_takes : MI yX5_takes cX5_takes 2 (some .boolean) 2 := ⟨cd_X5_takes, by unfold ArOK; decide +kernel⟩
theorem pn_X5_takes : plainName yX5_takes.cls = true := by decide +kernel
theorem mi_X5_setting : MI yX5_setting cX5_setting 2 (some .int) 1 := ⟨cd_X5_setting, by unfold ArOK; decide +kernel⟩
theorem pn_X5_setting : plainName yX5_setting.cls = true := by decide +kernel
theorem mi_X5_plan : MI yX5_plan cX5_plan 1 (some .int) 0 := ⟨cd_X5_plan, by unfold ArOK; decide +kernel⟩
theorem pn_X5_plan : plainName yX5_plan.cls = true := by decide +kernel
theorem mi_X5_makePlan : MI yX5_makePlan cX5_makePlan 3 (some .int) 0 := ⟨cd_X5_makePlan, by unfold ArOK; decide +kernel⟩
theorem pn_X5_makePlan : plainName yX5_makePlan.cls = true := by decide +kernel
theorem mi_X5_bestFor : MI yX5_bestFor cX5_bestFor 4 (some .int) 1 := ⟨cd_X5_bestFor, by unfold ArOK; decide +kernel⟩
theorem pn_X5_bestFor : plainName yX5_bestFor.cls = true := by decide +kernel
theorem mi_X5_isAhead : MI yX5_isAhead cX5_isAhead 5 (some .boolean) 2 := ⟨cd_X5_isAhead, by unfold ArOK; decide +kernel⟩
theorem pn_X5_isAhead : plainName yX5_isAhead.cls = true := by decide +kernel
theorem mi_X5_loadOf : MI yX5_loadOf cX5_loadOf 4 (some .int) 1 := ⟨cd_X5_loadOf, by unfold ArOK; decide +kernel⟩
theorem pn_X5_loadOf : plainName yX5_loadOf.cls = true := by decide +kernel
theorem mi_X5_ofTask : MI yX5_ofTask cX5_ofTask 3 (some .int) 2 := ⟨cd_X5_ofTask, by unfold ArOK; decide +kernel⟩
theorem pn_X5_ofTask : plainName yX5_ofTask.cls = true := by decide +kernel
theorem mi_X5_needsDeep : MI yX5_needsDeep cX5_needsDeep 2 (some .boolean) 1 := ⟨cd_X5_needsDeep, by unfold ArOK; decide +kernel⟩
theorem pn_X5_needsDeep : plainName yX5_needsDeep.cls = true := by decide +kernel
theorem mi_X5_ofArea : MI yX5_ofArea cX5_ofArea 3 (some .int) 2 := ⟨cd_X5_ofArea, by unfold ArOK; decide +kernel⟩
theorem pn_X5_ofArea : plainName yX5_ofArea.cls = true := by decide +kernel
theorem mi_X5_addTask : MI yX5_addTask cX5_addTask 6 none 3 := ⟨cd_X5_addTask, by unfold ArOK; decide +kernel⟩
theorem pn_X5_addTask : plainName yX5_addTask.cls = true := by decide +kernel
theorem mi_X5_layTask : MI yX5_layTask cX5_layTask 4 none 3 := ⟨cd_X5_layTask, by unfold ArOK; decide +kernel⟩
theorem pn_X5_layTask : plainName yX5_layTask.cls = true := by decide +kernel
theorem mi_X5_isDue : MI yX5_isDue cX5_isDue 2 (some .boolean) 1 := ⟨cd_X5_isDue, by unfold ArOK; decide +kernel⟩
theorem pn_X5_isDue : plainName yX5_isDue.cls = true := by decide +kernel
theorem mi_X5_partnerOf : MI yX5_partnerOf cX5_partnerOf 5 (some .int) 1 := ⟨cd_X5_partnerOf, by unfold ArOK; decide +kernel⟩
theorem pn_X5_partnerOf : plainName yX5_partnerOf.cls = true := by decide +kernel
theorem mi_X5_done : MI yX5_done cX5_done 2 (some .int) 1 := ⟨cd_X5_done, by unfold ArOK; decide +kernel⟩
theorem pn_X5_done : plainName yX5_done.cls = true := by decide +kernel
theorem mi_X5_isTask : MI yX5_isTask cX5_isTask 2 (some .boolean) 1 := ⟨cd_X5_isTask, by unfold ArOK; decide +kernel⟩
theorem pn_X5_isTask : plainName yX5_isTask.cls = true := by decide +kernel
theorem mi_X5_finish : MI yX5_finish cX5_finish 3 (some .int) 1 := ⟨cd_X5_finish, by unfold ArOK; decide +kernel⟩
theorem pn_X5_finish : plainName yX5_finish.cls = true := by decide +kernel
theorem mi_X5_isLastOf : MI yX5_isLastOf cX5_isLastOf 4 (some .boolean) 1 := ⟨cd_X5_isLastOf, by unfold ArOK; decide +kernel⟩
theorem pn_X5_isLastOf : plainName yX5_isLastOf.cls = true := by decide +kernel
theorem mi_X5_clean : MI yX5_clean cX5_clean 2 none 1 := ⟨cd_X5_clean, by unfold ArOK; decide +kernel⟩
theorem pn_X5_clean : plainName yX5_clean.cls = true := by decide +kernel
theorem mi_X5_dropSwaps : MI yX5_dropSwaps cX5_dropSwaps 3 none 1 := ⟨cd_X5_dropSwaps, by unfold ArOK; decide +kernel⟩
theorem pn_X5_dropSwaps : plainName yX5_dropSwaps.cls = true := by decide +kernel
theorem mi_X5_ofSwap : MI yX5_ofSwap cX5_ofSwap 3 (some .int) 2 := ⟨cd_X5_ofSwap, by unfold ArOK; decide +kernel⟩
theorem pn_X5_ofSwap : plainName yX5_ofSwap.cls = true := by decide +kernel
theorem mi_X5_removeSwap : MI yX5_removeSwap cX5_removeSwap 3 none 1 := ⟨cd_X5_removeSwap, by unfold ArOK; decide +kernel⟩
theorem pn_X5_removeSwap : plainName yX5_removeSwap.cls = true := by decide +kernel
theorem mi_X5_extra : MI yX5_extra cX5_extra 4 (some .int) 2 := ⟨cd_X5_extra, by unfold ArOK; decide +kernel⟩
theorem pn_X5_extra : plainName yX5_extra.cls = true := by decide +kernel
theorem mi_X5_isArea : MI yX5_isArea cX5_isArea 2 (some .boolean) 1 := ⟨cd_X5_isArea, by unfold ArOK; decide +kernel⟩
theorem pn_X5_isArea : plainName yX5_isArea.cls = true := by decide +kernel
theorem mi_X5_end : MI yX5_end cX5_end 1 (some .int) 0 := ⟨cd_X5_end, by unfold ArOK; decide +kernel⟩
theorem pn_X5_end : plainName yX5_end.cls = true := by decide +kernel
theorem mi_X5_makeEnd : MI yX5_makeEnd cX5_makeEnd 4 (some .int) 0 := ⟨cd_X5_makeEnd, by unfold ArOK; decide +kernel⟩
theorem pn_X5_makeEnd : plainName yX5_makeEnd.cls = true := by decide +kernel
theorem mi_X5_propose : MI yX5_propose cX5_propose 4 (some .int) 2 := ⟨cd_X5_propose, by unfold ArOK; decide +kernel⟩
theorem pn_X5_propose : plainName yX5_propose.cls = true := by decide +kernel
theorem mi_X5_isProposed : MI yX5_isProposed cX5_isProposed 5 (some .boolean) 2 := ⟨cd_X5_isProposed, by unfold ArOK; decide +kernel⟩
theorem pn_X5_isProposed : plainName yX5_isProposed.cls = true := by decide +kernel
theorem mi_X5_answer : MI yX5_answer cX5_answer 5 (some .int) 2 := ⟨cd_X5_answer, by unfold ArOK; decide +kernel⟩
theorem pn_X5_answer : plainName yX5_answer.cls = true := by decide +kernel
theorem mi_X5_exchange : MI yX5_exchange cX5_exchange 4 none 2 := ⟨cd_X5_exchange, by unfold ArOK; decide +kernel⟩
theorem pn_X5_exchange : plainName yX5_exchange.cls = true := by decide +kernel
theorem mi_X5_about : MI yX5_about cX5_about 3 (some .int) 2 := ⟨cd_X5_about, by unfold ArOK; decide +kernel⟩
theorem pn_X5_about : plainName yX5_about.cls = true := by decide +kernel
theorem mi_X5_openOf : MI yX5_openOf cX5_openOf 5 (some .int) 2 := ⟨cd_X5_openOf, by unfold ArOK; decide +kernel⟩
theorem pn_X5_openOf : plainName yX5_openOf.cls = true := by decide +kernel
theorem mi_X5_room : MI yX5_room cX5_room 3 (some .int) 2 := ⟨cd_X5_room, by unfold ArOK; decide +kernel⟩
theorem pn_X5_room : plainName yX5_room.cls = true := by decide +kernel
theorem mi_X5_task : MI yX5_task cX5_task 3 (some .int) 2 := ⟨cd_X5_task, by unfold ArOK; decide +kernel⟩
theorem pn_X5_task : plainName yX5_task.cls = true := by decide +kernel
theorem mi_X5_swap : MI yX5_swap cX5_swap 3 (some .int) 2 := ⟨cd_X5_swap, by unfold ArOK; decide +kernel⟩
theorem pn_X5_swap : plainName yX5_swap.cls = true := by decide +kernel
theorem mi_X5_count : MI yX5_count cX5_count 2 (some .int) 1 := ⟨cd_X5_count, by unfold ArOK; decide +kernel⟩
theorem pn_X5_count : plainName yX5_count.cls = true := by decide +kernel
theorem mi_X5_openTasks : MI yX5_openTasks cX5_openTasks 3 (some .int) 0 := ⟨cd_X5_openTasks, by unfold ArOK; decide +kernel⟩
theorem pn_X5_openTasks : plainName yX5_openTasks.cls = true := by decide +kernel
theorem mi_X5_spread : MI yX5_spread cX5_spread 6 (some .int) 1 := ⟨cd_X5_spread, by unfold ArOK; decide +kernel⟩
theorem pn_X5_spread : plainName yX5_spread.cls = true := by decide +kernel
theorem mi_X5_forecast : MI yX5_forecast cX5_forecast 8 (some .int) 2 := ⟨cd_X5_forecast, by unfold ArOK; decide +kernel⟩
theorem pn_X5_forecast : plainName yX5_forecast.cls = true := by decide +kernel
theorem mi_X5_putAside : MI yX5_putAside cX5_putAside 2 none 0 := ⟨cd_X5_putAside, by unfold ArOK; decide +kernel⟩
theorem pn_X5_putAside : plainName yX5_putAside.cls = true := by decide +kernel
theorem mi_X5_foulest : MI yX5_foulest cX5_foulest 3 (some .int) 0 := ⟨cd_X5_foulest, by unfold ArOK; decide +kernel⟩
theorem pn_X5_foulest : plainName yX5_foulest.cls = true := by decide +kernel
theorem mi_X5_putBack : MI yX5_putBack cX5_putBack 2 none 0 := ⟨cd_X5_putBack, by unfold ArOK; decide +kernel⟩
theorem pn_X5_putBack : plainName yX5_putBack.cls = true := by decide +kernel
theorem mi_X5_fairer : MI yX5_fairer cX5_fairer 9 (some .int) 1 := ⟨cd_X5_fairer, by unfold ArOK; decide +kernel⟩
theorem pn_X5_fairer : plainName yX5_fairer.cls = true := by decide +kernel
theorem mi_X5_put : MI yX5_put cX5_put 7 (some .int) 1 := ⟨cd_X5_put, by unfold ArOK; decide +kernel⟩
theorem pn_X5_put : plainName yX5_put.cls = true := by decide +kernel
theorem mi_X5_wipe : MI yX5_wipe cX5_wipe 2 (some .int) 0 := ⟨cd_X5_wipe, by unfold ArOK; decide +kernel⟩
theorem pn_X5_wipe : plainName yX5_wipe.cls = true := by decide +kernel
theorem mi_X5_fault : MI yX5_fault cX5_fault 1 (some .int) 0 := ⟨cd_X5_fault, by unfold ArOK; decide +kernel⟩
theorem pn_X5_fault : plainName yX5_fault.cls = true := by decide +kernel
theorem mi_X5_takePart : MI yX5_takePart cX5_takePart 4 none 0 := ⟨cd_X5_takePart, by unfold ArOK; decide +kernel⟩
theorem pn_X5_takePart : plainName yX5_takePart.cls = true := by decide +kernel
theorem mi_X5_takeNumber : MI yX5_takeNumber cX5_takeNumber 2 (some .int) 0 := ⟨cd_X5_takeNumber, by unfold ArOK; decide +kernel⟩
theorem pn_X5_takeNumber : plainName yX5_takeNumber.cls = true := by decide +kernel
theorem mi_X5_next : MI yX5_next cX5_next 1 (some .int) 0 := ⟨cd_X5_next, by unfold ArOK; decide +kernel⟩
theorem pn_X5_next : plainName yX5_next.cls = true := by decide +kernel
theorem mi_X5_load : MI yX5_load cX5_load 4 (some .int) 0 := ⟨cd_X5_load, by unfold ArOK; decide +kernel⟩
theorem pn_X5_load : plainName yX5_load.cls = true := by decide +kernel
theorem mi_X5_undo : MI yX5_undo cX5_undo 2 (some .int) 0 := ⟨cd_X5_undo, by unfold ArOK; decide +kernel⟩
theorem pn_X5_undo : plainName yX5_undo.cls = true := by decide +kernel
end
section
/-! BLOCKS: a stretch of instructions in one step, worked out by evaluation; Math.min, max, arraycopy -/
abbrev BR : Type := List (Option AV) × List AV × Sg
def ilen : Instr → Nat
  | .iload _ => 2
  | .istore _ => 2
  | .lload _ => 2
  | .lstore _ => 2
  | .bipush _ => 2
  | .sipush _ => 3
  | .getfield _ => 3
  | .putfield _ => 3
  | .goto _ => 3
  | .iinc _ _ => 3
  | _ => 1
def flk : List (Nat × Nat × Nat) → Nat → Option (Nat × Nat)
  | [], _ => none
  | e :: r, n => cond (Nat.beq e.1 n) (some e.2) (flk r n)
theorem flk_mem {n : Nat} {x : Nat × Nat} : ∀ {fl : List (Nat × Nat × Nat)}, flk fl n = some x → (n, x.1, x.2) ∈ fl
  | [], h => by cases h
  | e :: r, h => by
    rw [flk] at h
    cases hb : Nat.beq e.1 n with
    | true =>
      rw [hb] at h
      have h1 : e.1 = n := Nat.eq_of_beq_eq_true hb
      have h2 : e.2 = x := Option.some.inj h
      obtain ⟨a, b, c⟩ := e
      subst h2
      subst h1
      exact List.mem_cons_self
    | false =>
      rw [hb] at h
      exact List.mem_cons_of_mem _ (flk_mem h)
def bI (v : Option AV) (f : Int32 → Option BR) : Option BR := match v with
  | some (.inl x) => f x
  | _ => none
theorem bI_ok {v : Option AV} {f : Int32 → Option BR} {r : BR} (h : bI v f = some r) : ∃ x, v = some (vI x) ∧ f x = some r := by
  unfold bI at h
  split at h
  · exact ⟨_, rfl, h⟩
  · cases h
def bL (v : Option AV) (f : Int64 → Option BR) : Option BR := match v with
  | some (.inr (.inl x)) => f x
  | _ => none
theorem bL_ok {v : Option AV} {f : Int64 → Option BR} {r : BR} (h : bL v f = some r) : ∃ x, v = some (vL x) ∧ f x = some r := by
  unfold bL at h
  split at h
  · exact ⟨_, rfl, h⟩
  · cases h
def bQ (v : Option AV) (f : Lo → Option BR) : Option BR := match v with
  | some (.inr (.inr (some x))) => f x
  | _ => none
theorem bQ_ok {v : Option AV} {f : Lo → Option BR} {r : BR} (h : bQ v f = some r) : ∃ x, v = some (vR x) ∧ f x = some r := by
  unfold bQ at h
  split at h
  · exact ⟨_, rfl, h⟩
  · cases h
def pI (st : List AV) (f : Int32 → List AV → Option BR) : Option BR := match st with
  | .inl x :: r => f x r
  | _ => none
theorem pI_ok {st : List AV} {f : Int32 → List AV → Option BR} {r : BR} (h : pI st f = some r) : ∃ x t, st = vI x :: t ∧ f x t = some r := by
  unfold pI at h
  split at h
  · exact ⟨_, _, rfl, h⟩
  · cases h
def pL (st : List AV) (f : Int64 → List AV → Option BR) : Option BR := match st with
  | .inr (.inl x) :: r => f x r
  | _ => none
theorem pL_ok {st : List AV} {f : Int64 → List AV → Option BR} {r : BR} (h : pL st f = some r) : ∃ x t, st = vL x :: t ∧ f x t = some r := by
  unfold pL at h
  split at h
  · exact ⟨_, _, rfl, h⟩
  · cases h
def pQ (st : List AV) (f : Lo → List AV → Option BR) : Option BR := match st with
  | .inr (.inr (some x)) :: r => f x r
  | _ => none
theorem pQ_ok {st : List AV} {f : Lo → List AV → Option BR} {r : BR} (h : pQ st f = some r) : ∃ x t, st = vR x :: t ∧ f x t = some r := by
  unfold pQ at h
  split at h
  · exact ⟨_, _, rfl, h⟩
  · cases h
def b1 (loc : List (Option AV)) (i : Nat) (v : AV) (f : List (Option AV) → Option BR) : Option BR := cond (Nat.blt i loc.length) (match st1 loc i v with
  | some l => f l
  | none => none) none
theorem b1_ok {loc : List (Option AV)} {i : Nat} {v : AV} {f : List (Option AV) → Option BR} {r : BR} (h : b1 loc i v f = some r) : i < loc.length ∧ ∃ l, st1 loc i v = some l ∧ f l = some r := by
  unfold b1 at h
  cases hb : Nat.blt i loc.length with
  | false => rw [hb] at h; cases h
  | true =>
    rw [hb, cond_true] at h
    refine ⟨by simpa [Nat.blt_eq] using hb, ?_⟩
    split at h
    · exact ⟨_, by assumption, h⟩
    · cases h
def b2 (loc : List (Option AV)) (i : Nat) (v : AV) (f : List (Option AV) → Option BR) : Option BR := cond (Nat.blt (i + 1) loc.length) (match st2 loc i v with
  | some l => f l
  | none => none) none
theorem b2_ok {loc : List (Option AV)} {i : Nat} {v : AV} {f : List (Option AV) → Option BR} {r : BR} (h : b2 loc i v f = some r) : i + 1 < loc.length ∧ ∃ l, st2 loc i v = some l ∧ f l = some r := by
  unfold b2 at h
  cases hb : Nat.blt (i + 1) loc.length with
  | false => rw [hb] at h; cases h
  | true =>
    rw [hb, cond_true] at h
    refine ⟨by simpa [Nat.blt_eq] using hb, ?_⟩
    split at h
    · exact ⟨_, by assumption, h⟩
    · cases h
def bF (fl : List (Nat × Nat × Nat)) (n : Nat) (q : Lo) (f : Nat → Nat → FS → Option BR) : Option BR := match flk fl n with
  | some x => (match shp q with
    | .inl y => cond (Nat.beq y.1 x.1) (match y.2[x.2]? with
      | some g => f x.1 x.2 g
      | none => none) none
    | .inr _ => none)
  | none => none
theorem bF_ok {fl : List (Nat × Nat × Nat)} {n : Nat} {q : Lo} {f : Nat → Nat → FS → Option BR} {r : BR} (h : bF fl n q f = some r) : ∃ ci k y g, (n, ci, k) ∈ fl ∧ shp q = .inl y ∧ y.1 = ci ∧ y.2[k]? = some g ∧ f ci k g = some r := by
  unfold bF at h
  split at h
  · rename_i x hx
    split at h
    · rename_i y hy
      cases hb : Nat.beq y.1 x.1 with
      | false => rw [hb] at h; cases h
      | true =>
        rw [hb, cond_true] at h
        split at h
        · rename_i g hg
          exact ⟨x.1, x.2, y, g, flk_mem hx, hy, Nat.eq_of_beq_eq_true hb, hg, h⟩
        · cases h
    · cases h
  · cases h
def ibt (i : Int32) (n : Nat) : Bool := !(decide (i < 0)) && Nat.blt i.toNatClampNeg n
theorem ibt_ok {i : Int32} {n : Nat} (h : ibt i n = true) : vp_in i n := by
  unfold ibt at h
  simp only [Bool.and_eq_true, Bool.not_eq_true', decide_eq_false_iff_not, Nat.blt_eq] at h
  rintro (q | q)
  · exact h.1 q
  · omega
def bA (q : Lo) (i : Int32) (f : Option BR) : Option BR := match shp q with
  | .inr (0, n) => cond (ibt i n) f none
  | _ => none
theorem bA_ok {q : Lo} {i : Int32} {f : Option BR} {r : BR} (h : bA q i f = some r) : ∃ n, shp q = .inr (0, n) ∧ vp_in i n ∧ f = some r := by
  unfold bA at h
  split at h
  · rename_i n hn
    cases hb : ibt i n with
    | false => rw [hb] at h; cases h
    | true =>
      rw [hb, cond_true] at h
      exact ⟨n, hn, ibt_ok hb, h⟩
  · cases h
def bB (b : Bool) (f : Option BR) : Option BR := cond b f none
theorem bB_ok {b : Bool} {f : Option BR} {r : BR} (h : bB b f = some r) : b = true ∧ f = some r := by
  cases b with
  | false => cases h
  | true => exact ⟨rfl, h⟩
def isNo (g : FS) : Bool := match g with
  | none => true
  | _ => false
def bD (loc : List (Option AV)) (st : List AV) (σ : Sg) : Option BR := match st with
  | .inl x :: r => some (loc, vI x :: vI x :: r, σ)
  | .inr (.inr (some q)) :: r => some (loc, vR q :: vR q :: r, σ)
  | _ => none
def bstep (fl : List (Nat × Nat × Nat)) (i : Instr) (loc : List (Option AV)) (st : List AV) (σ : Sg) : Option BR := match i with
  | .iload_n k => bI (gl loc k) fun x => some (loc, vI x :: st, σ)
  | .iload k => bI (gl loc k) fun x => some (loc, vI x :: st, σ)
  | .lload_n k => bL (gl loc k) fun x => some (loc, vL x :: st, σ)
  | .lload k => bL (gl loc k) fun x => some (loc, vL x :: st, σ)
  | .aload_n k => bQ (gl loc k) fun x => some (loc, vR x :: st, σ)
  | .iconst n => some (loc, vI (Int32.ofInt n) :: st, σ)
  | .bipush n => some (loc, vI (Int8.ofInt n).toInt32 :: st, σ)
  | .sipush n => some (loc, vI (Int16.ofInt n).toInt32 :: st, σ)
  | .lconst n => some (loc, vL (Int64.ofNat (n : Nat)) :: st, σ)
  | .istore_n k => pI st fun x r => b1 loc k (vI x) fun l => some (l, r, σ)
  | .istore k => pI st fun x r => b1 loc k (vI x) fun l => some (l, r, σ)
  | .lstore_n k => pL st fun x r => b2 loc k (vL x) fun l => some (l, r, σ)
  | .lstore k => pL st fun x r => b2 loc k (vL x) fun l => some (l, r, σ)
  | .astore_n k => pQ st fun x r => b1 loc k (vR x) fun l => some (l, r, σ)
  | .iinc k n => bI (gl loc k) fun x => b1 loc k (vI (x + Int32.ofInt n)) fun l => some (l, st, σ)
  | .iadd => pI st fun y r => pI r fun x r => some (loc, vI (x + y) :: r, σ)
  | .isub => pI st fun y r => pI r fun x r => some (loc, vI (x - y) :: r, σ)
  | .imul => pI st fun y r => pI r fun x r => some (loc, vI (x * y) :: r, σ)
  | .iand => pI st fun y r => pI r fun x r => some (loc, vI (x &&& y) :: r, σ)
  | .ior => pI st fun y r => pI r fun x r => some (loc, vI (x ||| y) :: r, σ)
  | .ishl => pI st fun y r => pI r fun x r => some (loc, vI (x <<< (y &&& 31)) :: r, σ)
  | .ishr => pI st fun y r => pI r fun x r => some (loc, vI (x >>> (y &&& 31)) :: r, σ)
  | .ineg => pI st fun x r => some (loc, vI (-x) :: r, σ)
  | .land => pL st fun y r => pL r fun x r => some (loc, vL (x &&& y) :: r, σ)
  | .lor => pL st fun y r => pL r fun x r => some (loc, vL (x ||| y) :: r, σ)
  | .lcmp => pL st fun y r => pL r fun x r => some (loc, vI (lg_cmp x y) :: r, σ)
  | .lushr => pI st fun y r => pL r fun x r => some (loc, vL (x.toUInt64 >>> (y.toInt64.toUInt64 &&& Int64.toUInt64 63)).toInt64 :: r, σ)
  | .lshl => pI st fun y r => pL r fun x r => some (loc, vL (x <<< (y.toInt64 &&& 63)) :: r, σ)
  | .lshr => pI st fun y r => pL r fun x r => some (loc, vL (x >>> (y.toInt64 &&& 63)) :: r, σ)
  | .i2l => pI st fun x r => some (loc, vL x.toInt64 :: r, σ)
  | .l2i => pL st fun x r => some (loc, vI x.toInt32 :: r, σ)
  | .i2c => pI st fun x r => some (loc, vI (x.toUInt32 % 65536).toInt32 :: r, σ)
  | .pop => pI st fun _ r => some (loc, r, σ)
  | .dup2 => pI st fun x r => pQ r fun q r => some (loc, vI x :: vR q :: vI x :: vR q :: r, σ)
  | .getfield n => pQ st fun q r => bF fl n q fun _ k g => some (loc, av (σ.1 q) k g :: r, σ)
  | .putfield n => pI st fun x r => pQ r fun q r => bF fl n q fun ci k g => bB (isNo g && (nfin ci k && (!isZ ci k || (x == 0 || x == 1)))) (some (loc, r, (upd2 σ.1 q k x, σ.2)))
  | .iaload => pI st fun i r => pQ r fun q r => bA q i (some (loc, vI (σ.1 q i.toNatClampNeg) :: r, σ))
  | .iastore => pI st fun x r => pI r fun i r => pQ r fun q r => bA q i (some (loc, r, (upd2 σ.1 q i.toNatClampNeg x, σ.2)))
  | .dup => bD loc st σ
  | _ => none
section BLK
variable {l : Launch} {R : Room} {own : String} {cc : ByteArray} {nL : Nat} {ret : Option FieldType} {post : Option AV → Sg → Prop} {pc : Nat} {loc loc' : List (Option AV)} {st st' : List AV} {σ σ' : Sg}
theorem b1_len {i : Nat} {v : AV} {l' : List (Option AV)} (h : st1 loc i v = some l') : l'.length = loc.length := by rw [(st1_eq h).1, List.length_set]
theorem b2_len {i : Nat} {v : AV} {l' : List (Option AV)} (h : st2 loc i v = some l') : l'.length = loc.length := by rw [(st2_eq h).1, List.length_set, List.length_set]
set_option maxHeartbeats 1000000 in
theorem bstep_ok {fl : List (Nat × Nat × Nat)} (hfl : ∀ e ∈ fl, FLw own e) {i : Instr} (h : bstep fl i loc st σ = some (loc', st', σ')) (hlen : loc.length = nL) (hd : decode cc pc = .ok (i, ilen i)) : loc'.length = nL ∧ (G l R own cc nL ret post (pc + ilen i) loc' st' σ' → G l R own cc nL ret post pc loc st σ) := by
  subst hlen
  cases i with
  | iload_n k => obtain ⟨x, h1, h2⟩ := bI_ok (h : bI (gl loc k) _ = _); cases h2; exact ⟨rfl, g_iload_n hd h1⟩
  | iload k => obtain ⟨x, h1, h2⟩ := bI_ok (h : bI (gl loc k) _ = _); cases h2; exact ⟨rfl, g_iload hd h1⟩
  | lload_n k => obtain ⟨x, h1, h2⟩ := bL_ok (h : bL (gl loc k) _ = _); cases h2; exact ⟨rfl, g_lload_n hd h1⟩
  | lload k => obtain ⟨x, h1, h2⟩ := bL_ok (h : bL (gl loc k) _ = _); cases h2; exact ⟨rfl, g_lload hd h1⟩
  | aload_n k => obtain ⟨x, h1, h2⟩ := bQ_ok (h : bQ (gl loc k) _ = _); cases h2; exact ⟨rfl, g_aload_n hd h1⟩
  | iconst n => cases (h : some _ = _); exact ⟨rfl, g_iconst hd⟩
  | bipush n => cases (h : some _ = _); exact ⟨rfl, g_bipush hd⟩
  | sipush n => cases (h : some _ = _); exact ⟨rfl, g_sipush hd⟩
  | lconst n => cases (h : some _ = _); exact ⟨rfl, g_lconst hd⟩
  | istore_n k => obtain ⟨x, t, rfl, h⟩ := pI_ok (h : pI st _ = _); obtain ⟨hi, l', hs, h⟩ := b1_ok h; cases h; exact ⟨b1_len hs, g_istore_n hd hi hs⟩
  | istore k => obtain ⟨x, t, rfl, h⟩ := pI_ok (h : pI st _ = _); obtain ⟨hi, l', hs, h⟩ := b1_ok h; cases h; exact ⟨b1_len hs, g_istore hd hi hs⟩
  | lstore_n k => obtain ⟨x, t, rfl, h⟩ := pL_ok (h : pL st _ = _); obtain ⟨hi, l', hs, h⟩ := b2_ok h; cases h; exact ⟨b2_len hs, g_lstore_n hd hi hs⟩
  | lstore k => obtain ⟨x, t, rfl, h⟩ := pL_ok (h : pL st _ = _); obtain ⟨hi, l', hs, h⟩ := b2_ok h; cases h; exact ⟨b2_len hs, g_lstore hd hi hs⟩
  | astore_n k => obtain ⟨x, t, rfl, h⟩ := pQ_ok (h : pQ st _ = _); obtain ⟨hi, l', hs, h⟩ := b1_ok h; cases h; exact ⟨b1_len hs, g_astore_n hd hi hs⟩
  | iinc k n => obtain ⟨x, h1, h⟩ := bI_ok (h : bI (gl loc k) _ = _); obtain ⟨hi, l', hs, h⟩ := b1_ok h; cases h; exact ⟨b1_len hs, g_iinc hd h1 hi hs⟩
  | iadd => obtain ⟨y, t, rfl, h⟩ := pI_ok (h : pI st _ = _); obtain ⟨x, t, rfl, h⟩ := pI_ok h; cases h; exact ⟨rfl, g_iadd hd⟩
  | isub => obtain ⟨y, t, rfl, h⟩ := pI_ok (h : pI st _ = _); obtain ⟨x, t, rfl, h⟩ := pI_ok h; cases h; exact ⟨rfl, g_isub hd⟩
  | imul => obtain ⟨y, t, rfl, h⟩ := pI_ok (h : pI st _ = _); obtain ⟨x, t, rfl, h⟩ := pI_ok h; cases h; exact ⟨rfl, g_imul hd⟩
  | iand => obtain ⟨y, t, rfl, h⟩ := pI_ok (h : pI st _ = _); obtain ⟨x, t, rfl, h⟩ := pI_ok h; cases h; exact ⟨rfl, g_iand hd⟩
  | ior => obtain ⟨y, t, rfl, h⟩ := pI_ok (h : pI st _ = _); obtain ⟨x, t, rfl, h⟩ := pI_ok h; cases h; exact ⟨rfl, g_ior hd⟩
  | ishl => obtain ⟨y, t, rfl, h⟩ := pI_ok (h : pI st _ = _); obtain ⟨x, t, rfl, h⟩ := pI_ok h; cases h; exact ⟨rfl, g_ishl hd⟩
  | ishr => obtain ⟨y, t, rfl, h⟩ := pI_ok (h : pI st _ = _); obtain ⟨x, t, rfl, h⟩ := pI_ok h; cases h; exact ⟨rfl, g_ishr hd⟩
  | ineg => obtain ⟨y, t, rfl, h⟩ := pI_ok (h : pI st _ = _); cases h; exact ⟨rfl, g_ineg hd⟩
  | land => obtain ⟨y, t, rfl, h⟩ := pL_ok (h : pL st _ = _); obtain ⟨x, t, rfl, h⟩ := pL_ok h; cases h; exact ⟨rfl, g_land hd⟩
  | lor => obtain ⟨y, t, rfl, h⟩ := pL_ok (h : pL st _ = _); obtain ⟨x, t, rfl, h⟩ := pL_ok h; cases h; exact ⟨rfl, g_lor hd⟩
  | lcmp => obtain ⟨y, t, rfl, h⟩ := pL_ok (h : pL st _ = _); obtain ⟨x, t, rfl, h⟩ := pL_ok h; cases h; exact ⟨rfl, g_lcmp hd⟩
  | lushr => obtain ⟨y, t, rfl, h⟩ := pI_ok (h : pI st _ = _); obtain ⟨x, t, rfl, h⟩ := pL_ok h; cases h; exact ⟨rfl, g_lushr hd⟩
  | lshl => obtain ⟨y, t, rfl, h⟩ := pI_ok (h : pI st _ = _); obtain ⟨x, t, rfl, h⟩ := pL_ok h; cases h; exact ⟨rfl, g_lshl hd⟩
  | lshr => obtain ⟨y, t, rfl, h⟩ := pI_ok (h : pI st _ = _); obtain ⟨x, t, rfl, h⟩ := pL_ok h; cases h; exact ⟨rfl, g_lshr hd⟩
  | i2l => obtain ⟨y, t, rfl, h⟩ := pI_ok (h : pI st _ = _); cases h; exact ⟨rfl, g_i2l hd⟩
  | l2i => obtain ⟨y, t, rfl, h⟩ := pL_ok (h : pL st _ = _); cases h; exact ⟨rfl, g_l2i hd⟩
  | i2c => obtain ⟨y, t, rfl, h⟩ := pI_ok (h : pI st _ = _); cases h; exact ⟨rfl, g_i2c hd⟩
  | pop => obtain ⟨y, t, rfl, h⟩ := pI_ok (h : pI st _ = _); cases h; exact ⟨rfl, g_popI hd⟩
  | dup2 => obtain ⟨y, t, rfl, h⟩ := pI_ok (h : pI st _ = _); obtain ⟨x, t, rfl, h⟩ := pQ_ok h; cases h; exact ⟨rfl, g_dup2 hd⟩
  | getfield n => obtain ⟨q, t, rfl, ha⟩ := pQ_ok (h : pQ st _ = _); obtain ⟨ci, k, y, g, h1, h2, h3, h4, hb⟩ := bF_ok ha; cases hb; exact ⟨rfl, g_get hfl h1 h2 h3 h4 hd⟩
  | putfield n =>
    obtain ⟨x, t, rfl, ha⟩ := pI_ok (h : pI st _ = _)
    obtain ⟨q, t, rfl, hc⟩ := pQ_ok ha
    obtain ⟨ci, k, y, g, h1, h2, h3, h4, hc2⟩ := bF_ok hc
    obtain ⟨hb, hc3⟩ := bB_ok hc2
    simp only [Bool.and_eq_true, Bool.or_eq_true, Bool.not_eq_true', beq_iff_eq] at hb
    have hg : g = none := by
      rcases g with _ | g
      · rfl
      · exact absurd hb.1 (by simp [isNo])
    subst hg
    cases hc3
    exact ⟨rfl, g_put hfl h1 h2 h3 h4 hb.2.1 hb.2.2 hd⟩
  | iaload => obtain ⟨j, t, rfl, h⟩ := pI_ok (h : pI st _ = _); obtain ⟨q, t, rfl, h⟩ := pQ_ok h; obtain ⟨n, h1, h2, h⟩ := bA_ok h; cases h; exact ⟨rfl, g_iald h1 h2 hd⟩
  | iastore => obtain ⟨x, t, rfl, h⟩ := pI_ok (h : pI st _ = _); obtain ⟨j, t, rfl, h⟩ := pI_ok h; obtain ⟨q, t, rfl, h⟩ := pQ_ok h; obtain ⟨n, h1, h2, h⟩ := bA_ok h; cases h; exact ⟨rfl, g_iast h1 h2 hd⟩
  | dup =>
    have ha : bD loc st σ = some (loc', st', σ') := h
    clear h
    unfold bD at ha
    split at ha
    · cases ha; exact ⟨rfl, g_dupI hd⟩
    · cases ha; exact ⟨rfl, g_dupR hd⟩
    · cases ha
  | _ => cases (h : (none : Option BR) = some (loc', st', σ'))
def bgo (pc : Nat) (off : Int) : Option Nat := match (pc : Int) + off with
  | .ofNat t => some t
  | _ => none
def bex (fl : List (Nat × Nat × Nat)) : List (Nat × Instr) → Nat → List (Option AV) → List AV → Sg → Option (Nat × BR)
  | [], pc, loc, st, σ => some (pc, loc, st, σ)
  | e :: r, pc, loc, st, σ => cond (Nat.beq e.1 pc) (match e.2 with
    | .goto off => (match bgo pc off with
      | some t => bex fl r t loc st σ
      | none => none)
    | i => (match bstep fl i loc st σ with
      | some x => bex fl r (pc + ilen i) x.1 x.2.1 x.2.2
      | none => none)) none
def chk (cc : ByteArray) (e : Nat × Instr) : Bool := match decode cc e.1 with
  | .ok r => decide (r = (e.2, ilen e.2))
  | .error _ => false
theorem chk_ok {e : Nat × Instr} (h : chk cc e = true) : decode cc e.1 = .ok (e.2, ilen e.2) := by
  unfold chk at h
  split at h
  · rename_i r hr
    rw [hr, of_decide_eq_true h]
  · cases h
theorem bex_ok {fl : List (Nat × Nat × Nat)} (hfl : ∀ e ∈ fl, FLw own e) : ∀ (is : List (Nat × Instr)) (pc : Nat) (loc : List (Option AV)) (st : List AV) (σ : Sg) (pc' : Nat) (loc' : List (Option AV)) (st' : List AV) (σ' : Sg), is.all (chk cc) = true → loc.length = nL → bex fl is pc loc st σ = some (pc', loc', st', σ') → G l R own cc nL ret post pc' loc' st' σ' → G l R own cc nL ret post pc loc st σ
  | [], pc, loc, st, σ, pc', loc', st', σ', _, _, h, k => by
    cases h
    exact k
  | e :: r, pc, loc, st, σ, pc', loc', st', σ', hc, hlen, h, k => by
    rw [List.all_cons, Bool.and_eq_true] at hc
    have hd := chk_ok hc.1
    obtain ⟨q, i⟩ := e
    unfold bex at h
    cases hb : Nat.beq q pc with
    | false => simp only [hb] at h; cases h
    | true =>
      have e1 : q = pc := Nat.eq_of_beq_eq_true hb
      subst e1
      simp only [hb, cond_true] at h
      split at h
      · rename_i off
        split at h
        · rename_i t ht
          have htt : (q : Int) + off = (t : Int) := by
            unfold bgo at ht
            split at ht
            · rename_i z hz
              cases ht
              exact hz
            · cases ht
          exact g_goto hd htt (bex_ok hfl r t loc st σ pc' loc' st' σ' hc.2 hlen h k)
        · cases h
      · split at h
        · rename_i x hx
          obtain ⟨l1, g1⟩ := bstep_ok (l := l) (R := R) (ret := ret) (post := post) (loc' := x.1) (st' := x.2.1) (σ' := x.2.2) hfl hx hlen hd
          exact g1 (bex_ok hfl r _ x.1 x.2.1 x.2.2 pc' loc' st' σ' hc.2 l1 h k)
        · cases h
theorem g_blk {fl : List (Nat × Nat × Nat)} (hfl : ∀ e ∈ fl, FLw own e) (is : List (Nat × Instr)) {pc' : Nat} (hc : is.all (chk cc) = true) (hlen : loc.length = nL) (h : bex fl is pc loc st σ = some (pc', loc', st', σ')) (k : G l R own cc nL ret post pc' loc' st' σ') : G l R own cc nL ret post pc loc st σ := bex_ok hfl is pc loc st σ pc' loc' st' σ' hc hlen h k
theorem g_max {idx : Nat} {x y : Int32} (hl : Cond.methodLink own idx Lib.Math.max.name ∈ TG) (hR : 1 ≤ R.frames ∧ (st.map aCat).sum + 13 ≤ R.locals) (hd : decode cc pc = .ok (.invokestatic idx, 3)) (k : G l R own cc nL ret post (pc + 3) loc (vI (if x < y then y else x) :: st) σ) : G l R own cc nL ret post pc loc (vI y :: vI x :: st) σ := by
  intro E p e s m args below meth c H locs ls C hσ hst hloc hlen hlv hP hS
  exact va_mmax C.1 C.2.1 (C.2.2.1.trans hlv.1.symm) C.2.2.2.1 (C.2.2.2.2.1 _ hl) (C.2.2.2.2.1 _ j_max.1) (C.2.2.2.2.1 _ j_max.2.1) (C.2.2.2.2.1 _ j_max.2.2) hR.1 (by rw [cat_sum]; exact hR.2) (Nat.zero_le _) (Nat.zero_le _) hd (k E p e s m args below meth c H locs ls C hσ (ok_cn (a := vI _) trivial (ok_tl (ok_tl hst))) hloc hlen hlv hP hS)
theorem g_min {idx : Nat} {x y : Int32} (hl : Cond.methodLink own idx Lib.Math.min.name ∈ TG) (hR : 1 ≤ R.frames ∧ (st.map aCat).sum + 13 ≤ R.locals) (hd : decode cc pc = .ok (.invokestatic idx, 3)) (k : G l R own cc nL ret post (pc + 3) loc (vI (if y < x then y else x) :: st) σ) : G l R own cc nL ret post pc loc (vI y :: vI x :: st) σ := by
  intro E p e s m args below meth c H locs ls C hσ hst hloc hlen hlv hP hS
  refine va_mmin C.1 C.2.1 (C.2.2.1.trans hlv.1.symm) C.2.2.2.1 (C.2.2.2.2.1 _ hl) (C.2.2.2.2.1 _ j_min.1) (C.2.2.2.2.1 _ j_min.2.1) (C.2.2.2.2.1 _ j_min.2.2) hR.1 (by rw [cat_sum]; exact hR.2) (Nat.zero_le _) (Nat.zero_le _) hd (k E p e s m args below meth c H locs ls C hσ (ok_cn (a := vI _) trivial (ok_tl (ok_tl hst))) hloc hlen hlv hP hS)
theorem g_copy {idx n0 n1 : Nat} {q0 q1 : Lo} {sp dp n : Int32} (hl : Cond.methodLink own idx arraycopyName ∈ TG) (hs0 : shp q0 = .inr (0, n0)) (hs1 : shp q1 = .inr (0, n1)) (h1 : ¬ sp < 0) (h2 : ¬ dp < 0) (h3 : ¬ n < 0) (h4 : sp.toNatClampNeg + n.toNatClampNeg ≤ n0) (h5 : dp.toNatClampNeg + n.toNatClampNeg ≤ n1)
    (hR : 1 ≤ R.frames ∧ (st.map aCat).sum + (nativeFrameWords "java/lang/System" "arraycopy" 5 + 11) ≤ R.locals) (hd : decode cc pc = .ok (.invokestatic idx, 3))
    (k : G l R own cc nL ret post (pc + 3) loc st (fun p => if p = q1 then va_cpy (σ.1 q0) (σ.1 q1) sp.toNatClampNeg dp.toNatClampNeg n.toNatClampNeg else σ.1 p, σ.2)) : G l R own cc nL ret post pc loc (vI n :: vI dp :: vR q1 :: vI sp :: vR q0 :: st) σ := by
  intro E p e s m args below meth c H locs ls C hσ hst hloc hlen hlv hP hS
  obtain ⟨hx, hb, hml, hown, hts, hr, hlk, hK, hE⟩ := id C
  have hq1 : q1 ∈ allLo := ok_hd (ok_tl (ok_tl hst))
  have hq0 : q0 ∈ allLo := ok_hd (ok_tl (ok_tl (ok_tl (ok_tl hst))))
  obtain ⟨i0, hi0⟩ := List.getElem?_of_mem hq0
  obtain ⟨i1, hi1⟩ := List.getElem?_of_mem hq1
  have hg0 : (wsOf E σ)[i0]? = some (E.1 q0, .inl (E.2.2 0, n0, .inl (σ.1 q0))) := by rw [ws_get hi0, entry_int hs0]
  have hg1 : (wsOf E σ)[i1]? = some (E.1 q1, .inl (E.2.2 0, n1, .inl (σ.1 q1))) := by rw [ws_get hi1, entry_int hs1]
  refine va_copyi hx hb (hml.trans hlv.1.symm) hown (hts _ hl) (hts _ j_cpy.1) (hts _ j_cpy.2.1) (hts _ j_cpy.2.2) hK.1 hP (ws_D hE) hS i0 i1 0 0 hg0 hg1 rfl rfl rfl h1 h2 h3 h4 h5 (fun _ _ => rfl) hR.1 (by rw [cat_sum]; exact hR.2) hd (fun H1 locs1 hP1 hD1 hS1 => ?_)
  have hset : (wsOf E σ).set i1 (E.1 q1, .inl (E.2.2 0, n1, .inl (va_cpy (σ.1 q0) (σ.1 q1) sp.toNatClampNeg dp.toNatClampNeg n.toNatClampNeg))) = wsOf E (fun p => if p = q1 then va_cpy (σ.1 q0) (σ.1 q1) sp.toNatClampNeg dp.toNatClampNeg n.toNatClampNeg else σ.1 p, σ.2) := by
    have h1 := ws_set (E := E) (σ := σ) (σ' := (fun p => if p = q1 then va_cpy (σ.1 q0) (σ.1 q1) sp.toNatClampNeg dp.toNatClampNeg n.toNatClampNeg else σ.1 p, σ.2)) hi1 (fun p hp => by
      unfold entry
      simp only [if_neg hp])
    rw [entry_int hs1] at h1
    simp only [if_true] at h1
    exact h1
  rw [hset] at hP1
  exact k E p e s m args below meth c H1 locs1 ls C hσ (ok_tl (ok_tl (ok_tl (ok_tl (ok_tl hst))))) hloc hlen hlv hP1 hS1
end BLK
end
section
/-! TABLES: what a table holds, as a number of rows and a function -/
section PURECALL
variable {l : Launch} {R : Room} {own : String} {cc : ByteArray} {nL : Nat} {ret : Option FieldType} {post : Option AV → Sg → Prop} {pc : Nat} {loc : List (Option AV)} {st : List AV} {σ : Sg}
def pureP (t : Int32) (σ : Sg) : Option AV → Sg → Prop := fun o σ' => o = some (vI t) ∧ σ' = σ
theorem g_callVp {k idx maxL n : Nat} {y : MethodName} {bytes : ByteArray} {rt : Option FieldType} {t : Int32} (b : Lo) (As : List AV) (rest : List AV) {x : Nat × List FS} {r : vw_C}
    (hl : VLink own idx y) (hm : MI y bytes maxL rt n) (hC : Con l k y bytes maxL rt (vR b :: As) σ (pureP t σ)) (hsh : shp b = .inl x) (hc : vwCl[x.1]? = some r) (hcl : r.1 = y.cls) (hn : As.length = n) (hR : k + 1 ≤ R.frames ∧ 8 + (maxL + 11) + 32 * k ≤ R.locals)
    (hs : st = As.reverse ++ vR b :: rest) (hcat : (rest.map aCat).sum ≤ 8) (hd : decode cc pc = .ok (.invokevirtual idx, 3))
    (kk : G l R own cc nL ret post (pc + 3) loc (vI t :: rest) σ) : G l R own cc nL ret post pc loc st σ :=
  g_callV b As rest hl hm hC hsh hc hcl hn hR hs hcat hd (fun o σ' hP => by obtain ⟨rfl, h⟩ := hP; rw [h]; exact kk)
theorem g_callSp {k idx maxL n : Nat} {y : MethodName} {bytes : ByteArray} {rt : Option FieldType} {t : Int32} (As : List AV) (rest : List AV)
    (hl : SLink own idx y) (hm : MI y bytes maxL rt n) (hC : Con l k y bytes maxL rt As σ (pureP t σ)) (hn : As.length = n) (hR : k + 1 ≤ R.frames ∧ 8 + (maxL + 11) + 32 * k ≤ R.locals)
    (hs : st = As.reverse ++ rest) (hcat : (rest.map aCat).sum ≤ 8) (hd : decode cc pc = .ok (.invokestatic idx, 3))
    (kk : G l R own cc nL ret post (pc + 3) loc (vI t :: rest) σ) : G l R own cc nL ret post pc loc st σ :=
  g_callS As rest hl hm hC hn hR hs hcat hd (fun o σ' hP => by obtain ⟨rfl, h⟩ := hP; rw [h]; exact kk)
theorem g_callNp {k idx maxL n : Nat} {y : MethodName} {bytes : ByteArray} {rt : Option FieldType} {t : Int32} (As : List AV) (rest : List AV)
    (hw : Cond.methodLinkNest own idx y RX4 ∈ nestWs) (hl : NLink y) (hm : MI y bytes maxL rt n) (hC : Con l k y bytes maxL rt As σ (pureP t σ)) (hn : As.length = n) (hR : k + 1 ≤ R.frames ∧ 8 + (maxL + 11) + 32 * k ≤ R.locals)
    (hs : st = As.reverse ++ rest) (hcat : (rest.map aCat).sum ≤ 8) (hd : decode cc pc = .ok (.invokestatic idx, 3))
    (kk : G l R own cc nL ret post (pc + 3) loc (vI t :: rest) σ) : G l R own cc nL ret post pc loc st σ :=
  g_callN As rest hw hl hm hC hn hR hs hcat hd (fun o σ' hP => by obtain ⟨rfl, h⟩ := hP; rw [h]; exact kk)
end PURECALL
def mst : Nat → Nat
  | 0 => 8
  | 1 => 6
  | 2 => 12
  | 3 => 6
  | 4 => 1
  | _ => 30
def wid : Nat → Nat
  | 0 => 7
  | 1 => 5
  | 2 => 5
  | 3 => 2
  | 4 => 4
  | _ => 2
theorem tMost_eq : ∀ j, tMost j = nI (mst j)
  | 0 => rfl
  | 1 => rfl
  | 2 => rfl
  | 3 => rfl
  | 4 => rfl
  | _ + 5 => rfl
theorem tWid_eq : ∀ j, tWid j = nI (wid j)
  | 0 => rfl
  | 1 => rfl
  | 2 => rfl
  | 3 => rfl
  | 4 => rfl
  | _ + 5 => rfl
theorem tLen_eq : ∀ j, tLen j = mst j * wid j
  | 0 => rfl
  | 1 => rfl
  | 2 => rfl
  | 3 => rfl
  | 4 => rfl
  | _ + 5 => rfl
theorem mst_le : ∀ j, mst j ≤ 30
  | 0 => by decide
  | 1 => by decide
  | 2 => by decide
  | 3 => by decide
  | 4 => by decide
  | _ + 5 => Nat.le_refl _
theorem wid_le : ∀ j, wid j ≤ 7
  | 0 => by decide
  | 1 => by decide
  | 2 => by decide
  | 3 => by decide
  | 4 => by decide
  | _ + 5 => (by decide : 2 ≤ 7)
theorem wid_pos : ∀ j, 0 < wid j
  | 0 => by decide
  | 1 => by decide
  | 2 => by decide
  | 3 => by decide
  | 4 => by decide
  | _ + 5 => (by decide : 0 < 2)
abbrev TV : Type := Nat × (Nat → Nat → Int32)
def tN (σ : Sg) (j h : Nat) : Nat := (σ.1 (0, j, h) 3).toNatClampNeg
def tabs (σ : Sg) (j h : Nat) : TV := (tN σ j h, fun r c => if r < tN σ j h ∧ c < wid j then σ.1 (1, j, h) (r * wid j + c) else 0)
def TOK (σ : Sg) (j h : Nat) : Prop := tN σ j h ≤ mst j ∧ σ.1 (0, j, h) 3 = nI (tN σ j h)
theorem tN_of {σ : Sg} {j h n : Nat} (hn : n ≤ mst j) (e : σ.1 (0, j, h) 3 = nI n) : tN σ j h = n := by
  have := mst_le j
  rw [tN, e, nI_clamp (by omega)]
theorem TOK_of {σ : Sg} {j h n : Nat} (hn : n ≤ mst j) (e : σ.1 (0, j, h) 3 = nI n) : TOK σ j h := by
  rw [TOK, tN_of hn e]
  exact ⟨hn, e⟩
def tcell (T : TV) (row col : Int32) : Int32 := if row < 0 ∨ col < 0 then 0 else T.2 row.toNatClampNeg col.toNatClampNeg
def twr (w : Nat) (T : TV) (row col v : Int32) : TV := (T.1, fun r c => if (¬ row < 0 ∧ ¬ col < 0) ∧ (r = row.toNatClampNeg ∧ c = col.toNatClampNeg) ∧ (r < T.1 ∧ c < w) then v else T.2 r c)
def FrT (j h : Nat) (σ σ' : Sg) : Prop := (∀ q, q ≠ (0, j, h) → q ≠ (1, j, h) → σ'.1 q = σ.1 q) ∧ σ'.2 = σ.2
def TW (j h : Nat) (T' : TV) (σ σ' : Sg) : Prop := tabs σ' j h = T' ∧ TOK σ' j h ∧ FrT j h σ σ'
theorem FrT.rf {j h : Nat} {σ : Sg} : FrT j h σ σ := ⟨fun _ _ _ => rfl, rfl⟩
theorem FrT.tr {j h : Nat} {σ σ1 σ2 : Sg} (a : FrT j h σ σ1) (b : FrT j h σ1 σ2) : FrT j h σ σ2 := ⟨fun q h1 h2 => (b.1 q h1 h2).trans (a.1 q h1 h2), b.2.trans a.2⟩
theorem TW.tr {j h : Nat} {T1 T2 : TV} {σ σ1 σ2 : Sg} (a : TW j h T1 σ σ1) (b : TW j h T2 σ1 σ2) : TW j h T2 σ σ2 := ⟨b.1, b.2.1, a.2.2.tr b.2.2⟩
theorem flat_inj {w r c r' c' : Nat} (h1 : c < w) (h2 : c' < w) (h : r * w + c = r' * w + c') : r = r' ∧ c = c' := by
  have hw : 0 < w := by omega
  have e1 : (r * w + c) / w = r := by rw [Nat.mul_comm, Nat.mul_add_div hw, Nat.div_eq_of_lt h1, Nat.add_zero]
  have e2 : (r' * w + c') / w = r' := by rw [Nat.mul_comm, Nat.mul_add_div hw, Nat.div_eq_of_lt h2, Nat.add_zero]
  have hr : r = r' := by rw [← e1, h, e2]
  subst hr
  exact ⟨rfl, by omega⟩
theorem flat_lt {w m r c : Nat} (hr : r < m) (hc : c < w) : r * w + c < m * w := by
  have : (r + 1) * w ≤ m * w := Nat.mul_le_mul_right w hr
  rw [Nat.succ_mul] at this
  omega
theorem flat_I {w r c : Nat} : nI r * nI w + nI c = nI (r * w + c) := by rw [pk_mul, nI_add]
theorem flat_small {j r c : Nat} (hr : r < mst j) (hc : c < wid j) : r * wid j + c < 2 ^ 31 := by
  have h1 := flat_lt hr hc
  have h2 := Nat.mul_le_mul (mst_le j) (wid_le j)
  omega
theorem ne01 {j h j' h' : Nat} : ((0, j, h) : Lo) ≠ (1, j', h') := by simp
theorem tN_ne {σ : Sg} {j h : Nat} {q : Lo} {k : Nat} {x : Int32} (hq : q ≠ (0, j, h)) : tN (upd2 σ.1 q k x, σ.2) j h = tN σ j h := by
  unfold tN
  rw [show (upd2 σ.1 q k x, σ.2).1 (0, j, h) = σ.1 (0, j, h) from upd2_ne σ.1 k x (Ne.symm hq)]
theorem tw_wr {σ : Sg} {j h r c : Nat} {v : Int32} (hT : TOK σ j h) (hr : r < tN σ j h) (hc : c < wid j) : TW j h (twr (wid j) (tabs σ j h) (nI r) (nI c) v) σ (upd2 σ.1 (1, j, h) (nI (r * wid j + c)).toNatClampNeg v, σ.2) := by
  have hm := hT.1
  have hsm := flat_small (j := j) (r := r) (c := c) (by omega) hc
  have h30 := mst_le j
  have h7 := wid_le j
  rw [nI_clamp hsm]
  have hN : tN (upd2 σ.1 (1, j, h) (r * wid j + c) v, σ.2) j h = tN σ j h := tN_ne (by simp)
  refine ⟨?_, ?_, ?_⟩
  · rw [tabs, hN, twr, tabs]
    simp only [nI_clamp (show r < 2 ^ 31 by omega), nI_clamp (show c < 2 ^ 31 by omega), nI_pos (show r < 2 ^ 31 by omega), nI_pos (show c < 2 ^ 31 by omega), upd2_same, not_false_eq_true, true_and, and_self]
    congr 1
    funext r' c'
    by_cases hin : r' < tN σ j h ∧ c' < wid j
    · by_cases he : r' = r ∧ c' = c
      · obtain ⟨rfl, rfl⟩ := he
        simp [hin, upd]
      · have hne : ¬ r' * wid j + c' = r * wid j + c := fun q => he (flat_inj hin.2 hc q)
        simp [hin, he, upd, hne]
    · simp [hin]
  · have e : (upd2 σ.1 (1, j, h) (r * wid j + c) v, σ.2).1 (0, j, h) = σ.1 (0, j, h) := upd2_ne σ.1 (q := (1, j, h)) (p := (0, j, h)) (r * wid j + c) v ne01
    rw [TOK, hN, e]
    exact hT
  · exact ⟨fun q h1 h2 => upd2_ne σ.1 (q := (1, j, h)) (p := q) (r * wid j + c) v h2, rfl⟩
theorem tw_no {σ : Sg} {j h : Nat} {row col v : Int32} (hT : TOK σ j h) (hout : ¬ (vp_in row (tN σ j h) ∧ vp_in col (wid j))) : TW j h (twr (wid j) (tabs σ j h) row col v) σ σ := by
  refine ⟨?_, hT, FrT.rf⟩
  refine Prod.ext rfl ?_
  funext r c
  show (tabs σ j h).2 r c = if (¬ row < 0 ∧ ¬ col < 0) ∧ (r = row.toNatClampNeg ∧ c = col.toNatClampNeg) ∧ (r < tN σ j h ∧ c < wid j) then v else (tabs σ j h).2 r c
  rw [if_neg]
  intro hh
  have h3 := hh.2.2.1
  have h4 := hh.2.2.2
  have e1 := hh.2.1.1
  have e2 := hh.2.1.2
  exact hout ⟨fun q => q.elim hh.1.1 (fun z => absurd h3 (by omega)), fun q => q.elim hh.1.2 (fun z => absurd h4 (by omega))⟩
theorem tcell_out {σ : Sg} {j h : Nat} {row col : Int32} (hout : ¬ (vp_in row (tN σ j h) ∧ vp_in col (wid j))) : tcell (tabs σ j h) row col = 0 := by
  rw [tcell]
  split
  · rfl
  · rename_i hn
    rw [tabs]
    simp only
    rw [if_neg]
    rintro ⟨h3, h4⟩
    exact hout ⟨fun q => q.elim (fun z => hn (Or.inl z)) (fun z => absurd h3 (Nat.not_lt.mpr z)), fun q => q.elim (fun z => hn (Or.inr z)) (fun z => absurd h4 (Nat.not_lt.mpr z))⟩
theorem tcell_at {σ : Sg} {j h r c : Nat} (hT : TOK σ j h) (hr : r < tN σ j h) (hc : c < wid j) : tcell (tabs σ j h) (nI r) (nI c) = σ.1 (1, j, h) (nI (r * wid j + c)).toNatClampNeg := by
  have hm := hT.1
  have h30 := mst_le j
  have h7 := wid_le j
  have hsm := flat_small (j := j) (r := r) (c := c) (by omega) hc
  rw [tcell, nI_clamp (show r < 2 ^ 31 by omega), nI_clamp (show c < 2 ^ 31 by omega), nI_clamp hsm, if_neg (by rintro (q | q); exact nI_pos (by omega) q; exact nI_pos (by omega) q), tabs]
  simp only
  rw [if_pos ⟨hr, hc⟩]
theorem out_lo {row : Int32} {n : Nat} (h : row < 0) : ¬ vp_in row n := fun q => q (Or.inl h)
theorem out_hi {row : Int32} {n : Nat} (hn : n < 2 ^ 31) (h : nI n ≤ row) : ¬ vp_in row n := by
  rintro q
  have h1 : ¬ row < 0 := fun z => q (Or.inl z)
  obtain ⟨m, hm, rfl⟩ := nI_of h1
  rw [nI_leI hn hm] at h
  exact q (Or.inr (by rw [nI_clamp hm]; exact h))
theorem in_of {row : Int32} {n : Nat} (hn : n < 2 ^ 31) (h0 : ¬ row < 0) (h1 : ¬ nI n ≤ row) : ∃ r, r < n ∧ row = nI r := by
  rcases pk_ix row hn with h | h | h
  · exact absurd h h0
  · exact absurd h h1
  · exact h
def tapp (T : TV) : TV := (T.1 + 1, T.2)
def trem (T : TV) (r0 : Nat) : TV := (T.1 - 1, fun r c => if r < r0 then T.2 r c else T.2 (r + 1) c)
def hasT (x : Int32) (n : Nat) : Int32 := if x < 0 ∨ n ≤ x.toNatClampNeg then 0 else 1
theorem hasT_in {x : Int32} {n : Nat} (h : vp_in x n) : hasT x n = 1 := by rw [hasT, if_neg h]
theorem hasT_out {x : Int32} {n : Nat} (h : ¬ vp_in x n) : hasT x n = 0 := by
  rw [hasT]
  split
  · rfl
  · rename_i h1
    exact absurd h1 h
theorem tabs_can {σ : Sg} {j h r c : Nat} (hh : ¬ (r < tN σ j h ∧ c < wid j)) : (tabs σ j h).2 r c = 0 := by
  rw [tabs]
  simp only
  rw [if_neg hh]
theorem tcell_nI {T : TV} {r c : Nat} (hr : r < 2 ^ 31) (hc : c < 2 ^ 31) : tcell T (nI r) (nI c) = T.2 r c := by
  rw [tcell, nI_clamp hr, nI_clamp hc, if_neg (by rintro (q | q); exact nI_pos hr q; exact nI_pos hc q)]
theorem twr_nI {w : Nat} {T : TV} {r c : Nat} {v : Int32} (hr : r < T.1) (hc : c < w) (hr2 : r < 2 ^ 31) (hc2 : c < 2 ^ 31) : twr w T (nI r) (nI c) v = (T.1, fun r' c' => if r' = r ∧ c' = c then v else T.2 r' c') := by
  refine Prod.ext rfl ?_
  funext r' c'
  show (if (¬ nI r < 0 ∧ ¬ nI c < 0) ∧ (r' = (nI r).toNatClampNeg ∧ c' = (nI c).toNatClampNeg) ∧ (r' < T.1 ∧ c' < w) then v else T.2 r' c') = if r' = r ∧ c' = c then v else T.2 r' c'
  rw [nI_clamp hr2, nI_clamp hc2]
  by_cases he : r' = r ∧ c' = c
  · rw [if_pos he, if_pos ⟨⟨nI_pos hr2, nI_pos hc2⟩, he, by rw [he.1, he.2]; exact ⟨hr, hc⟩⟩]
  · rw [if_neg he, if_neg (fun z => he z.2.1)]
-- the number of rows is set
theorem tabs_rows {σ σ' : Sg} {j h m : Nat} (hm : m ≤ mst j) (e : (upd2 σ.1 (0, j, h) 3 (nI m), σ.2) = σ') : TOK σ' j h ∧ tN σ' j h = m ∧ (∀ r c, (tabs σ' j h).2 r c = if r < m ∧ c < wid j then σ.1 (1, j, h) (r * wid j + c) else 0) ∧ FrT j h σ σ' := by
  subst e
  have e0 : (upd2 σ.1 (0, j, h) 3 (nI m), σ.2).1 (0, j, h) 3 = nI m := by
    show upd2 σ.1 (0, j, h) 3 (nI m) (0, j, h) 3 = nI m
    rw [upd2_same]
    simp [upd]
  have e1 : (upd2 σ.1 (0, j, h) 3 (nI m), σ.2).1 (1, j, h) = σ.1 (1, j, h) := upd2_ne σ.1 (q := (0, j, h)) (p := (1, j, h)) 3 (nI m) (by simp)
  have e2 := tN_of hm e0
  refine ⟨TOK_of hm e0, e2, fun r c => ?_, ⟨fun q h1 h2 => upd2_ne σ.1 (q := (0, j, h)) (p := q) 3 (nI m) h1, rfl⟩⟩
  rw [tabs, e2]
  simp only
  have e3 : upd2 σ.1 (0, j, h) 3 (nI m) (1, j, h) = σ.1 (1, j, h) := e1
  rw [e3]
-- a step of removing
def fR (T : TV) (r0 m c : Nat) : Nat → Nat → Int32 := fun r' c' => if r' + 1 < m then (if r' < r0 then T.2 r' c' else T.2 (r' + 1) c') else if r' + 1 = m ∧ c' < c then T.2 m c' else T.2 r' c'
theorem fR_0 (T : TV) (r0 : Nat) : fR T r0 (r0 + 1) 0 = T.2 := by
  funext r c
  unfold fR
  by_cases h1 : r + 1 < r0 + 1
  · rw [if_pos h1, if_pos (by omega)]
  · rw [if_neg h1, if_neg (by omega)]
theorem fR_step {T : TV} {r0 m c w n : Nat} (hm : 0 < m) (hmn : m < n) (hc : c < w) (hn : n < 2 ^ 31) (hw : w < 2 ^ 31) : twr w (n, fR T r0 m c) (nI (m - 1)) (nI c) (T.2 m c) = (n, fR T r0 m (c + 1)) := by
  rw [twr_nI (show m - 1 < n by omega) hc (by omega) (by omega)]
  refine Prod.ext rfl ?_
  funext r' c'
  show (if r' = m - 1 ∧ c' = c then T.2 m c else fR T r0 m c r' c') = fR T r0 m (c + 1) r' c'
  unfold fR
  by_cases h1 : r' + 1 < m
  · rw [if_pos h1, if_pos h1, if_neg (by omega)]
  · rw [if_neg h1, if_neg h1]
    by_cases h2 : r' + 1 = m ∧ c' < c
    · rw [if_neg (by omega), if_pos h2, if_pos (by omega)]
    · rw [if_neg h2]
      by_cases h3 : r' = m - 1 ∧ c' = c
      · rw [if_pos h3, if_pos (by omega), h3.2]
      · rw [if_neg h3, if_neg (by omega)]
theorem fR_next {T : TV} {r0 m w : Nat} (hr : r0 < m) (hz : ∀ r c, w ≤ c → T.2 r c = 0) : fR T r0 m w = fR T r0 (m + 1) 0 := by
  funext r' c'
  unfold fR
  by_cases h1 : r' + 1 < m
  · rw [if_pos h1, if_pos (show r' + 1 < m + 1 by omega)]
  · rw [if_neg h1]
    by_cases h2 : r' + 1 = m
    · rw [if_pos (show r' + 1 < m + 1 by omega), if_neg (show ¬ r' < r0 by omega), h2]
      by_cases h3 : c' < w
      · rw [if_pos ⟨rfl, h3⟩]
      · rw [if_neg (by omega), hz _ _ (by omega), hz _ _ (by omega)]
    · rw [if_neg (by omega), if_neg (show ¬ r' + 1 < m + 1 by omega), if_neg (by omega)]
def cpS (σ : Sg) (q : Lo) (f : Nat → Int32) : Sg := (fun p => if p = q then f else σ.1 p, σ.2)
theorem cpS_ne {σ : Sg} {q p : Lo} {f : Nat → Int32} (h : p ≠ q) : (cpS σ q f).1 p = σ.1 p := if_neg h
theorem cpS_eq {σ : Sg} {q : Lo} {f : Nat → Int32} : (cpS σ q f).1 q = f := if_pos rfl
end
section
/-! TABLES: contracts (laid by wip/whole/mk08.py) -/
theorem fa_nle {a b : Int32} (h : b ≤ a) : a < b → False := fun z => absurd (Int32.lt_iff_toInt_lt.mp z) (by have := Int32.le_iff_toInt_le.mp h; omega)
theorem fa_nlt {a b : Int32} (h : ¬ a < b) : b ≤ a := Int32.le_iff_toInt_le.mpr (by have : ¬ a.toInt < b.toInt := fun z => h (Int32.lt_iff_toInt_lt.mpr z); omega)
set_option maxHeartbeats 1000000 in
theorem c_X3_size (l : Launch) {σ : Sg} {j h : Nat} (hT : TOK σ j h) : Con l 0 yX3_size cX3_size 1 (some .int) [vR (0, j, h)] σ (pureP (nI (tN σ j h)) σ) := by
  refine con_of pn_X3_size (Nat.le_of_ble_eq_true rfl) (fun hPK hok => ?_)
  show G l (Rm 0) RX3 cX3_size 1 (some .int) _ 0 [some (vR (0, j, h))] [] σ
  refine g_blk (pc' := 4) (loc' := [some (vR (0, j, h))]) (st' := [vI (σ.1 (0, j, h) 3)]) (σ' := σ) fl3_ok [(0, .aload_n 0), (1, .getfield 28)] (by decide +kernel) rfl rfl ?_
  exact g_iret (by decide +kernel) (by rw [hT.2]; exact ⟨rfl, rfl⟩)
set_option maxHeartbeats 1000000 in
theorem c_X3_isFull (l : Launch) {σ : Sg} {j h : Nat} (hT : TOK σ j h) : Con l 0 yX3_isFull cX3_isFull 1 (some .boolean) [vR (0, j, h)] σ (pureP (if mst j ≤ tN σ j h then 1 else 0) σ) := by
  refine con_of pn_X3_isFull (Nat.le_of_ble_eq_true rfl) (fun hPK hok => ?_)
  show G l (Rm 0) RX3 cX3_isFull 1 (some .boolean) _ 0 [some (vR (0, j, h))] [] σ
  refine g_blk (pc' := 8) (loc' := [some (vR (0, j, h))]) (st' := [vI (tMost j), vI (σ.1 (0, j, h) 3)]) (σ' := σ) fl3_ok [(0, .aload_n 0), (1, .getfield 28), (4, .aload_n 0), (5, .getfield 9)] (by decide +kernel) rfl rfl ?_
  refine g_icmp_lt (off := 7) (tgt := 15) (by decide +kernel) (by decide) (fun c8 => ?_) (fun c8 => ?_)
  · refine g_blk (pc' := 16) (loc' := [some (vR (0, j, h))]) (st' := [vI (0 : Int32)]) (σ' := σ) fl3_ok [(15, .iconst 0)] (by decide +kernel) rfl rfl ?_
    exact g_zret (by decide +kernel) (Or.inl rfl) (by rw [tMost_eq, hT.2] at c8; rw [nI_ltI (by have := mst_le j; have := hT.1; omega) (by have := mst_le j; have := hT.1; omega)] at c8; exact ⟨by rw [if_neg (by omega)], rfl⟩)
  · refine g_blk (pc' := 16) (loc' := [some (vR (0, j, h))]) (st' := [vI (1 : Int32)]) (σ' := σ) fl3_ok [(11, .iconst 1), (12, .goto 4)] (by decide +kernel) rfl rfl ?_
    exact g_zret (by decide +kernel) (Or.inr rfl) (by rw [tMost_eq, hT.2] at c8; rw [nI_ltI (by have := mst_le j; have := hT.1; omega) (by have := mst_le j; have := hT.1; omega)] at c8; exact ⟨by rw [if_pos (by omega)], rfl⟩)
set_option maxHeartbeats 1000000 in
theorem c_X3_has (l : Launch) {σ : Sg} {j h : Nat} (row : Int32) (hT : TOK σ j h) : Con l 0 yX3_has cX3_has 2 (some .boolean) [vR (0, j, h), vI row] σ (pureP (hasT row (tN σ j h)) σ) := by
  refine con_of pn_X3_has (Nat.le_of_ble_eq_true rfl) (fun hPK hok => ?_)
  show G l (Rm 0) RX3 cX3_has 2 (some .boolean) _ 0 [some (vR (0, j, h)), some (vI row)] [] σ
  refine g_blk (pc' := 1) (loc' := [some (vR (0, j, h)), some (vI row)]) (st' := [vI row]) (σ' := σ) fl3_ok [(0, .iload_n 1)] (by decide +kernel) rfl rfl ?_
  refine g_if_lt (off := 15) (tgt := 16) (by decide +kernel) (by decide) (fun c1 => ?_) (fun c1 => ?_)
  · refine g_blk (pc' := 17) (loc' := [some (vR (0, j, h)), some (vI row)]) (st' := [vI (0 : Int32)]) (σ' := σ) fl3_ok [(16, .iconst 0)] (by decide +kernel) rfl rfl ?_
    exact g_zret (by decide +kernel) (Or.inl rfl) (⟨by rw [hasT_out (out_lo c1)], rfl⟩)
  · refine g_blk (pc' := 9) (loc' := [some (vR (0, j, h)), some (vI row)]) (st' := [vI (σ.1 (0, j, h) 3), vI row]) (σ' := σ) fl3_ok [(4, .iload_n 1), (5, .aload_n 0), (6, .getfield 28)] (by decide +kernel) rfl rfl ?_
    refine g_icmp_ge (off := 7) (tgt := 16) (by decide +kernel) (by decide) (fun c9 => ?_) (fun c9 => ?_)
    · refine g_blk (pc' := 17) (loc' := [some (vR (0, j, h)), some (vI row)]) (st' := [vI (0 : Int32)]) (σ' := σ) fl3_ok [(16, .iconst 0)] (by decide +kernel) rfl rfl ?_
      exact g_zret (by decide +kernel) (Or.inl rfl) (⟨by rw [hasT_out (out_hi (by have := mst_le j; have := hT.1; omega) (by rw [hT.2] at c9; exact c9))], rfl⟩)
    · refine g_blk (pc' := 17) (loc' := [some (vR (0, j, h)), some (vI row)]) (st' := [vI (1 : Int32)]) (σ' := σ) fl3_ok [(12, .iconst 1), (13, .goto 4)] (by decide +kernel) rfl rfl ?_
      exact g_zret (by decide +kernel) (Or.inr rfl) (⟨by rw [hT.2] at c9; obtain ⟨r, hr, rfl⟩ := in_of (by have := mst_le j; have := hT.1; omega) c1 c9; rw [hasT_in (vp_in_nI hr (by have := mst_le j; have := hT.1; omega))], rfl⟩)
set_option maxHeartbeats 1000000 in
theorem c_X3_cell (l : Launch) {σ : Sg} {j h : Nat} (row col : Int32) (hT : TOK σ j h) : Con l 0 yX3_cell cX3_cell 4 (some .int) [vR (0, j, h), vI row, vI col] σ (pureP (tcell (tabs σ j h) row col) σ) := by
  refine con_of pn_X3_cell (Nat.le_of_ble_eq_true rfl) (fun hPK hok => ?_)
  show G l (Rm 0) RX3 cX3_cell 4 (some .int) _ 0 [some (vR (0, j, h)), some (vI row), some (vI col), none] [] σ
  refine g_blk (pc' := 1) (loc' := [some (vR (0, j, h)), some (vI row), some (vI col), none]) (st' := [vI row]) (σ' := σ) fl3_ok [(0, .iload_n 1)] (by decide +kernel) rfl rfl ?_
  refine g_if_lt (off := 23) (tgt := 24) (by decide +kernel) (by decide) (fun c1 => ?_) (fun c1 => ?_)
  · refine g_blk (pc' := 25) (loc' := [some (vR (0, j, h)), some (vI row), some (vI col), none]) (st' := [vI (0 : Int32)]) (σ' := σ) fl3_ok [(24, .iconst 0)] (by decide +kernel) rfl rfl ?_
    exact g_iret (by decide +kernel) (⟨by rw [tcell_out (fun q => out_lo c1 q.1)], rfl⟩)
  · refine g_blk (pc' := 9) (loc' := [some (vR (0, j, h)), some (vI row), some (vI col), none]) (st' := [vI (σ.1 (0, j, h) 3), vI row]) (σ' := σ) fl3_ok [(4, .iload_n 1), (5, .aload_n 0), (6, .getfield 28)] (by decide +kernel) rfl rfl ?_
    refine g_icmp_ge (off := 15) (tgt := 24) (by decide +kernel) (by decide) (fun c9 => ?_) (fun c9 => ?_)
    · refine g_blk (pc' := 25) (loc' := [some (vR (0, j, h)), some (vI row), some (vI col), none]) (st' := [vI (0 : Int32)]) (σ' := σ) fl3_ok [(24, .iconst 0)] (by decide +kernel) rfl rfl ?_
      exact g_iret (by decide +kernel) (⟨by rw [tcell_out (fun q => out_hi (by have := mst_le j; have := hT.1; omega) (by rw [hT.2] at c9; exact c9) q.1)], rfl⟩)
    · refine g_blk (pc' := 13) (loc' := [some (vR (0, j, h)), some (vI row), some (vI col), none]) (st' := [vI col]) (σ' := σ) fl3_ok [(12, .iload_n 2)] (by decide +kernel) rfl rfl ?_
      refine g_if_lt (off := 11) (tgt := 24) (by decide +kernel) (by decide) (fun c13 => ?_) (fun c13 => ?_)
      · refine g_blk (pc' := 25) (loc' := [some (vR (0, j, h)), some (vI row), some (vI col), none]) (st' := [vI (0 : Int32)]) (σ' := σ) fl3_ok [(24, .iconst 0)] (by decide +kernel) rfl rfl ?_
        exact g_iret (by decide +kernel) (⟨by rw [tcell_out (fun q => out_lo c13 q.2)], rfl⟩)
      · refine g_blk (pc' := 21) (loc' := [some (vR (0, j, h)), some (vI row), some (vI col), none]) (st' := [vI (tWid j), vI col]) (σ' := σ) fl3_ok [(16, .iload_n 2), (17, .aload_n 0), (18, .getfield 15)] (by decide +kernel) rfl rfl ?_
        refine g_icmp_lt (off := 5) (tgt := 26) (by decide +kernel) (by decide) (fun c21 => ?_) (fun c21 => ?_)
        · rw [hT.2] at c9
          rw [tWid_eq] at c21
          obtain ⟨r, hr, er⟩ := in_of (by have := mst_le j; have := hT.1; omega) c1 c9
          obtain ⟨c, hc, ec⟩ := in_of (by have := wid_le j; omega) c13 (fun z => fa_nle z c21)
          have hm : r < mst j := Nat.lt_of_lt_of_le hr hT.1
          have hidx : row * tWid j + col = nI (r * wid j + c) := by rw [er, ec, tWid_eq, flat_I]
          have hlt : r * wid j + c < tLen j := by rw [tLen_eq]; exact flat_lt hm hc
          have hsm := flat_small hm hc
          have hL : tLen j < 2 ^ 31 := by rw [tLen_eq]; have := Nat.mul_le_mul (mst_le j) (wid_le j); omega
          refine g_blk (pc' := 40) (loc' := [some (vR (0, j, h)), some (vI row), some (vI col), some (vI ((row * (tWid j)) + col))]) (st' := [vR (1, j, h), vI ((row * (tWid j)) + col)]) (σ' := σ) fl3_ok [(26, .iload_n 1), (27, .aload_n 0), (28, .getfield 15), (31, .imul), (32, .iload_n 2), (33, .iadd), (34, .istore_n 3), (35, .iload_n 3), (36, .aload_n 0), (37, .getfield 24)] (by decide +kernel) rfl rfl ?_
          refine g_alen (x := (0, tLen j)) rfl (Nat.le_of_ble_eq_true rfl) (by decide +kernel) ?_
          refine g_icmp_ge (off := 12) (tgt := 53) (by decide +kernel) (by decide) (fun c41 => ?_) (fun c41 => ?_)
          · rw [hidx, show Int32.ofNat (tLen j) = nI (tLen j) from rfl, nI_leI hL hsm] at c41
            exact absurd hlt (by omega)
          · refine g_blk (pc' := 49) (loc' := [some (vR (0, j, h)), some (vI row), some (vI col), some (vI ((row * (tWid j)) + col))]) (st' := [vI ((row * (tWid j)) + col), vR (1, j, h)]) (σ' := σ) fl3_ok [(44, .aload_n 0), (45, .getfield 24), (48, .iload_n 3)] (by decide +kernel) rfl rfl ?_
            refine g_iald (n := tLen j) rfl (by rw [hidx]; exact vp_in_nI hlt hL) (by decide +kernel) ?_
            refine g_blk (pc' := 54) (loc' := [some (vR (0, j, h)), some (vI row), some (vI col), some (vI ((row * (tWid j)) + col))]) (st' := [vI (σ.1 (1, j, h) ((row * (tWid j)) + col).toNatClampNeg)]) (σ' := σ) fl3_ok [(50, .goto 4)] (by decide +kernel) rfl rfl ?_
            exact g_iret (by decide +kernel) (⟨by rw [er, ec, tcell_at hT hr hc, tWid_eq, flat_I], rfl⟩)
        · refine g_blk (pc' := 25) (loc' := [some (vR (0, j, h)), some (vI row), some (vI col), none]) (st' := [vI (0 : Int32)]) (σ' := σ) fl3_ok [(24, .iconst 0)] (by decide +kernel) rfl rfl ?_
          exact g_iret (by decide +kernel) (⟨by rw [tcell_out (fun q => out_hi (by have := wid_le j; omega) (by rw [tWid_eq] at c21; exact fa_nlt c21) q.2)], rfl⟩)
set_option maxHeartbeats 1000000 in
theorem c_X3_write (l : Launch) {σ : Sg} {j h : Nat} (row col v : Int32) (hT : TOK σ j h) : Con l 0 yX3_write cX3_write 5 none [vR (0, j, h), vI row, vI col, vI v] σ (fun o σ' => o = none ∧ TW j h (twr (wid j) (tabs σ j h) row col v) σ σ') := by
  refine con_of pn_X3_write (Nat.le_of_ble_eq_true rfl) (fun hPK hok => ?_)
  show G l (Rm 0) RX3 cX3_write 5 none _ 0 [some (vR (0, j, h)), some (vI row), some (vI col), some (vI v), none] [] σ
  refine g_blk (pc' := 1) (loc' := [some (vR (0, j, h)), some (vI row), some (vI col), some (vI v), none]) (st' := [vI row]) (σ' := σ) fl3_ok [(0, .iload_n 1)] (by decide +kernel) rfl rfl ?_
  refine g_if_lt (off := 23) (tgt := 24) (by decide +kernel) (by decide) (fun c1 => ?_) (fun c1 => ?_)
  · exact g_vret (by decide +kernel) (⟨rfl, tw_no hT (fun q => out_lo c1 q.1)⟩)
  · refine g_blk (pc' := 9) (loc' := [some (vR (0, j, h)), some (vI row), some (vI col), some (vI v), none]) (st' := [vI (σ.1 (0, j, h) 3), vI row]) (σ' := σ) fl3_ok [(4, .iload_n 1), (5, .aload_n 0), (6, .getfield 28)] (by decide +kernel) rfl rfl ?_
    refine g_icmp_ge (off := 15) (tgt := 24) (by decide +kernel) (by decide) (fun c9 => ?_) (fun c9 => ?_)
    · exact g_vret (by decide +kernel) (⟨rfl, tw_no hT (fun q => out_hi (by have := mst_le j; have := hT.1; omega) (by rw [hT.2] at c9; exact c9) q.1)⟩)
    · refine g_blk (pc' := 13) (loc' := [some (vR (0, j, h)), some (vI row), some (vI col), some (vI v), none]) (st' := [vI col]) (σ' := σ) fl3_ok [(12, .iload_n 2)] (by decide +kernel) rfl rfl ?_
      refine g_if_lt (off := 11) (tgt := 24) (by decide +kernel) (by decide) (fun c13 => ?_) (fun c13 => ?_)
      · exact g_vret (by decide +kernel) (⟨rfl, tw_no hT (fun q => out_lo c13 q.2)⟩)
      · refine g_blk (pc' := 21) (loc' := [some (vR (0, j, h)), some (vI row), some (vI col), some (vI v), none]) (st' := [vI (tWid j), vI col]) (σ' := σ) fl3_ok [(16, .iload_n 2), (17, .aload_n 0), (18, .getfield 15)] (by decide +kernel) rfl rfl ?_
        refine g_icmp_lt (off := 4) (tgt := 25) (by decide +kernel) (by decide) (fun c21 => ?_) (fun c21 => ?_)
        · rw [hT.2] at c9
          rw [tWid_eq] at c21
          obtain ⟨r, hr, er⟩ := in_of (by have := mst_le j; have := hT.1; omega) c1 c9
          obtain ⟨c, hc, ec⟩ := in_of (by have := wid_le j; omega) c13 (fun z => fa_nle z c21)
          have hm : r < mst j := Nat.lt_of_lt_of_le hr hT.1
          have hidx : row * tWid j + col = nI (r * wid j + c) := by rw [er, ec, tWid_eq, flat_I]
          have hlt : r * wid j + c < tLen j := by rw [tLen_eq]; exact flat_lt hm hc
          have hsm := flat_small hm hc
          have hL : tLen j < 2 ^ 31 := by rw [tLen_eq]; have := Nat.mul_le_mul (mst_le j) (wid_le j); omega
          refine g_blk (pc' := 41) (loc' := [some (vR (0, j, h)), some (vI row), some (vI col), some (vI v), some (vI ((row * (tWid j)) + col))]) (st' := [vR (1, j, h), vI ((row * (tWid j)) + col)]) (σ' := σ) fl3_ok [(25, .iload_n 1), (26, .aload_n 0), (27, .getfield 15), (30, .imul), (31, .iload_n 2), (32, .iadd), (33, .istore 4), (35, .iload 4), (37, .aload_n 0), (38, .getfield 24)] (by decide +kernel) rfl rfl ?_
          refine g_alen (x := (0, tLen j)) rfl (Nat.le_of_ble_eq_true rfl) (by decide +kernel) ?_
          refine g_icmp_ge (off := 11) (tgt := 53) (by decide +kernel) (by decide) (fun c42 => ?_) (fun c42 => ?_)
          · rw [hidx, show Int32.ofNat (tLen j) = nI (tLen j) from rfl, nI_leI hL hsm] at c42
            exact absurd hlt (by omega)
          · refine g_blk (pc' := 52) (loc' := [some (vR (0, j, h)), some (vI row), some (vI col), some (vI v), some (vI ((row * (tWid j)) + col))]) (st' := [vI v, vI ((row * (tWid j)) + col), vR (1, j, h)]) (σ' := σ) fl3_ok [(45, .aload_n 0), (46, .getfield 24), (49, .iload 4), (51, .iload_n 3)] (by decide +kernel) rfl rfl ?_
            refine g_iast (n := tLen j) rfl (by rw [hidx]; exact vp_in_nI hlt hL) (by decide +kernel) ?_
            exact g_vret (by decide +kernel) (⟨rfl, by rw [hidx, er, ec]; exact tw_wr hT hr hc⟩)
        · exact g_vret (by decide +kernel) (⟨rfl, tw_no hT (fun q => out_hi (by have := wid_le j; omega) (by rw [tWid_eq] at c21; exact fa_nlt c21) q.2)⟩)
set_option maxHeartbeats 1000000 in
theorem c_X3_increase (l : Launch) {σ : Sg} {j h : Nat} (row col v : Int32) (hT : TOK σ j h) : Con l 1 yX3_increase cX3_increase 4 none [vR (0, j, h), vI row, vI col, vI v] σ (fun o σ' => o = none ∧ TW j h (twr (wid j) (tabs σ j h) row col (tcell (tabs σ j h) row col + v)) σ σ') := by
  refine con_of pn_X3_increase (Nat.le_of_ble_eq_true rfl) (fun hPK hok => ?_)
  show G l (Rm 1) RX3 cX3_increase 4 none _ 0 [some (vR (0, j, h)), some (vI row), some (vI col), some (vI v)] [] σ
  refine g_blk (pc' := 6) (loc' := [some (vR (0, j, h)), some (vI row), some (vI col), some (vI v)]) (st' := [vI col, vI row, vR (0, j, h), vI col, vI row, vR (0, j, h)]) (σ' := σ) fl3_ok [(0, .aload_n 0), (1, .iload_n 1), (2, .iload_n 2), (3, .aload_n 0), (4, .iload_n 1), (5, .iload_n 2)] (by decide +kernel) rfl rfl ?_
  refine g_callVp (0, j, h) [vI row, vI col] [vI col, vI row, vR (0, j, h)] vl_RX3_31 mi_X3_cell (c_X3_cell l row col hT) rfl rfl rfl rfl ⟨Nat.le_of_ble_eq_true rfl, Nat.le_of_ble_eq_true rfl⟩ rfl (Nat.le_of_ble_eq_true rfl) (by decide +kernel) ?_
  refine g_blk (pc' := 11) (loc' := [some (vR (0, j, h)), some (vI row), some (vI col), some (vI v)]) (st' := [vI ((tcell (tabs σ j h) row col) + v), vI col, vI row, vR (0, j, h)]) (σ' := σ) fl3_ok [(9, .iload_n 3), (10, .iadd)] (by decide +kernel) rfl rfl ?_
  refine g_callV (0, j, h) [vI row, vI col, vI ((tcell (tabs σ j h) row col) + v)] [] vl_RX3_34 mi_X3_write (c_X3_write l row col ((tcell (tabs σ j h) row col) + v) hT) rfl rfl rfl rfl ⟨Nat.le_of_ble_eq_true rfl, Nat.le_of_ble_eq_true rfl⟩ rfl (Nat.le_of_ble_eq_true rfl) (by decide +kernel) (fun o σ1 hPσ1 => ?_)
  obtain ⟨rfl, hWσ1⟩ := hPσ1
  exact g_vret (by decide +kernel) (⟨rfl, hWσ1⟩)
set_option maxHeartbeats 1000000 in
theorem c_X3_exchange (l : Launch) {σ : Sg} {j h : Nat} (row col v : Int32) (hT : TOK σ j h) : Con l 1 yX3_exchange cX3_exchange 5 (some .int) [vR (0, j, h), vI row, vI col, vI v] σ (fun o σ' => o = some (vI (tcell (tabs σ j h) row col)) ∧ TW j h (twr (wid j) (tabs σ j h) row col v) σ σ') := by
  refine con_of pn_X3_exchange (Nat.le_of_ble_eq_true rfl) (fun hPK hok => ?_)
  show G l (Rm 1) RX3 cX3_exchange 5 (some .int) _ 0 [some (vR (0, j, h)), some (vI row), some (vI col), some (vI v), none] [] σ
  refine g_blk (pc' := 3) (loc' := [some (vR (0, j, h)), some (vI row), some (vI col), some (vI v), none]) (st' := [vI col, vI row, vR (0, j, h)]) (σ' := σ) fl3_ok [(0, .aload_n 0), (1, .iload_n 1), (2, .iload_n 2)] (by decide +kernel) rfl rfl ?_
  refine g_callVp (0, j, h) [vI row, vI col] [] vl_RX3_31 mi_X3_cell (c_X3_cell l row col hT) rfl rfl rfl rfl ⟨Nat.le_of_ble_eq_true rfl, Nat.le_of_ble_eq_true rfl⟩ rfl (Nat.le_of_ble_eq_true rfl) (by decide +kernel) ?_
  refine g_blk (pc' := 12) (loc' := [some (vR (0, j, h)), some (vI row), some (vI col), some (vI v), some (vI (tcell (tabs σ j h) row col))]) (st' := [vI v, vI col, vI row, vR (0, j, h)]) (σ' := σ) fl3_ok [(6, .istore 4), (8, .aload_n 0), (9, .iload_n 1), (10, .iload_n 2), (11, .iload_n 3)] (by decide +kernel) rfl rfl ?_
  refine g_callV (0, j, h) [vI row, vI col, vI v] [] vl_RX3_34 mi_X3_write (c_X3_write l row col v hT) rfl rfl rfl rfl ⟨Nat.le_of_ble_eq_true rfl, Nat.le_of_ble_eq_true rfl⟩ rfl (Nat.le_of_ble_eq_true rfl) (by decide +kernel) (fun o σ1 hPσ1 => ?_)
  obtain ⟨rfl, hWσ1⟩ := hPσ1
  refine g_blk (pc' := 17) (loc' := [some (vR (0, j, h)), some (vI row), some (vI col), some (vI v), some (vI (tcell (tabs σ j h) row col))]) (st' := [vI (tcell (tabs σ j h) row col)]) (σ' := σ1) fl3_ok [(15, .iload 4)] (by decide +kernel) rfl rfl ?_
  exact g_iret (by decide +kernel) (⟨rfl, hWσ1⟩)
set_option maxHeartbeats 1000000 in
theorem c_X3_clear (l : Launch) {σ : Sg} {j h : Nat} (hT : TOK σ j h) : Con l 0 yX3_clear cX3_clear 1 none [vR (0, j, h)] σ (fun o σ' => o = none ∧ TW j h ((0, fun _ _ => 0)) σ σ') := by
  refine con_of pn_X3_clear (Nat.le_of_ble_eq_true rfl) (fun hPK hok => ?_)
  show G l (Rm 0) RX3 cX3_clear 1 none _ 0 [some (vR (0, j, h))] [] σ
  refine g_blk (pc' := 5) (loc' := [some (vR (0, j, h))]) (st' := []) (σ' := (upd2 σ.1 (0, j, h) 3 (0 : Int32), σ.2)) fl3_ok [(0, .aload_n 0), (1, .iconst 0), (2, .putfield 28)] (by decide +kernel) rfl rfl ?_
  generalize hσ1 : ((upd2 σ.1 (0, j, h) 3 (0 : Int32), σ.2) : Sg) = σ1
  exact g_vret (by decide +kernel) (⟨rfl, by obtain ⟨h1, h2, h3, h4⟩ := tabs_rows (m := 0) (Nat.zero_le _) hσ1; exact ⟨Prod.ext h2 (by funext r c; rw [h3, if_neg (fun z => absurd z.1 (Nat.not_lt_zero r))]), h1, h4⟩⟩)
set_option maxHeartbeats 1000000 in
theorem lp_X3_append (l : Launch) {σ0 : Sg} {j h n : Nat} (hn : n < mst j) (hN0 : tN σ0 j h = n) : ∀ (k c : Nat) (σ : Sg), c ≤ wid j → wid j < c + k → TOK σ j h → tN σ j h = n + 1 → FrT j h σ0 σ → (∀ r' c', r' < n → (tabs σ j h).2 r' c' = (tabs σ0 j h).2 r' c') → (∀ c', c' < c → (tabs σ j h).2 n c' = 0) → G l (Rm 1) RX3 cX3_append 3 (some .int) (fun o σ' => o = some (vI (nI n)) ∧ TW j h (tapp (tabs σ0 j h)) σ0 σ') 29 [some (vR (0, j, h)), some (vI (nI n)), some (vI (nI c))] [] σ := by
  intro k
  induction k with
  | zero =>
    intro c σ hc hk hT hN hF hA hZ
    exact absurd hk (by omega)
  | succ k ih =>
    intro c σ hc hk hT hN hF hA hZ
    refine g_blk (pc' := 34) (loc' := [some (vR (0, j, h)), some (vI (nI n)), some (vI (nI c))]) (st' := [vI (tWid j), vI (nI c)]) (σ' := σ) fl3_ok [(29, .iload_n 2), (30, .aload_n 0), (31, .getfield 15)] (by decide +kernel) rfl rfl ?_
    refine g_icmp_ge (off := 16) (tgt := 50) (by decide +kernel) (by decide) (fun c34 => ?_) (fun c34 => ?_)
    · rw [tWid_eq, nI_leI (by have := wid_le j; omega) (by have := wid_le j; omega)] at c34
      refine g_blk (pc' := 51) (loc' := [some (vR (0, j, h)), some (vI (nI n)), some (vI (nI c))]) (st' := [vI (nI n)]) (σ' := σ) fl3_ok [(50, .iload_n 1)] (by decide +kernel) rfl rfl ?_
      have ec : c = wid j := by omega
      refine g_iret (by decide +kernel) ⟨rfl, Prod.ext (by show tN σ j h = tN σ0 j h + 1; rw [hN, hN0]) (by
        funext r' c'
        show (tabs σ j h).2 r' c' = (tabs σ0 j h).2 r' c'
        rcases Nat.lt_trichotomy r' n with q | q | q
        · exact hA r' c' q
        · subst q
          rw [tabs_can (σ := σ0) (by omega)]
          rcases Nat.lt_or_ge c' (wid j) with z | z
          · exact hZ c' (by omega)
          · exact tabs_can (by omega)
        · rw [tabs_can (by omega), tabs_can (by omega)]), hT, hF⟩
    · rw [tWid_eq, nI_leI (by have := wid_le j; omega) (by have := wid_le j; omega)] at c34
      refine g_blk (pc' := 41) (loc' := [some (vR (0, j, h)), some (vI (nI n)), some (vI (nI c))]) (st' := [vI (0 : Int32), vI (nI c), vI (nI n), vR (0, j, h)]) (σ' := σ) fl3_ok [(37, .aload_n 0), (38, .iload_n 1), (39, .iload_n 2), (40, .iconst 0)] (by decide +kernel) rfl rfl ?_
      refine g_callV (0, j, h) [vI (nI n), vI (nI c), vI (0 : Int32)] [] vl_RX3_34 mi_X3_write (c_X3_write l (nI n) (nI c) (0 : Int32) hT) rfl rfl rfl rfl ⟨Nat.le_of_ble_eq_true rfl, Nat.le_of_ble_eq_true rfl⟩ rfl (Nat.le_of_ble_eq_true rfl) (by decide +kernel) (fun o σ1 hPσ1 => ?_)
      obtain ⟨rfl, hWσ1⟩ := hPσ1
      refine g_blk (pc' := 29) (loc' := [some (vR (0, j, h)), some (vI (nI n)), some (vI ((nI c) + (1 : Int32)))]) (st' := []) (σ' := σ1) fl3_ok [(44, .iinc 2 1), (47, .goto (-18))] (by decide +kernel) rfl rfl ?_
      have hcell : ∀ r' c', (tabs σ1 j h).2 r' c' = if r' = n ∧ c' = c then 0 else (tabs σ j h).2 r' c' := by
        intro r' c'
        rw [hWσ1.1, twr_nI (show n < (tabs σ j h).1 from by show n < tN σ j h; omega) (show c < wid j by omega) (by have := mst_le j; omega) (by have := wid_le j; omega)]
      rw [nI_1]
      have hN1 : tN σ1 j h = n + 1 := by
        have e : (tabs σ1 j h).1 = (twr (wid j) (tabs σ j h) (nI n) (nI c) 0).1 := by rw [hWσ1.1]
        exact e.trans hN
      exact ih (c + 1) σ1 (by omega) (by omega) hWσ1.2.1 hN1 (hF.tr hWσ1.2.2) (fun r' c' hr => by rw [hcell, if_neg (by omega)]; exact hA r' c' hr) (fun c' hc => by
        rw [hcell]
        split
        · rfl
        · exact hZ c' (by omega))
set_option maxHeartbeats 1000000 in
theorem c_X3_append (l : Launch) {σ : Sg} {j h : Nat} (hT : TOK σ j h) (hn : tN σ j h < mst j) : Con l 1 yX3_append cX3_append 3 (some .int) [vR (0, j, h)] σ (fun o σ' => o = some (vI (nI (tN σ j h))) ∧ TW j h (tapp (tabs σ j h)) σ σ') := by
  refine con_of pn_X3_append (Nat.le_of_ble_eq_true rfl) (fun hPK hok => ?_)
  show G l (Rm 1) RX3 cX3_append 3 (some .int) _ 0 [some (vR (0, j, h)), none, none] [] σ
  refine g_blk (pc' := 1) (loc' := [some (vR (0, j, h)), none, none]) (st' := [vR (0, j, h)]) (σ' := σ) fl3_ok [(0, .aload_n 0)] (by decide +kernel) rfl rfl ?_
  refine g_callVp (0, j, h) [] [] vl_RX3_38 mi_X3_isFull (c_X3_isFull l hT) rfl rfl rfl rfl ⟨Nat.le_of_ble_eq_true rfl, Nat.le_of_ble_eq_true rfl⟩ rfl (Nat.le_of_ble_eq_true rfl) (by decide +kernel) ?_
  refine g_if_eq (off := 6) (tgt := 10) (by decide +kernel) (by decide) (fun c4 => ?_) (fun c4 => ?_)
  · refine g_blk (pc' := 29) (loc' := [some (vR (0, j, h)), some (vI (((upd2 σ.1 (0, j, h) 3 ((σ.1 (0, j, h) 3) + (1 : Int32)), σ.2).1 (0, j, h) 3) - (1 : Int32))), some (vI (0 : Int32))]) (st' := []) (σ' := (upd2 σ.1 (0, j, h) 3 ((σ.1 (0, j, h) 3) + (1 : Int32)), σ.2)) fl3_ok [(10, .aload_n 0), (11, .dup), (12, .getfield 28), (15, .iconst 1), (16, .iadd), (17, .putfield 28), (20, .aload_n 0), (21, .getfield 28), (24, .iconst 1), (25, .isub), (26, .istore_n 1), (27, .iconst 0), (28, .istore_n 2)] (by decide +kernel) rfl rfl ?_
    generalize hσ1 : ((upd2 σ.1 (0, j, h) 3 ((σ.1 (0, j, h) 3) + (1 : Int32)), σ.2) : Sg) = σ1
    rw [hT.2, nI_1] at hσ1
    obtain ⟨h1, h2, h3, h4⟩ := tabs_rows (m := tN σ j h + 1) (by omega) hσ1
    rw [h1.2, h2, nI_pred]
    exact lp_X3_append l hn rfl (wid j + 1) 0 σ1 (Nat.zero_le _) (by omega) h1 h2 h4 (fun r' c' hr => by
      rw [h3, tabs]
      simp only
      by_cases hc : c' < wid j
      · rw [if_pos ⟨by omega, hc⟩, if_pos ⟨hr, hc⟩]
      · rw [if_neg (fun z => hc z.2), if_neg (fun z => hc z.2)]) (fun c' hc => absurd hc (Nat.not_lt_zero _))
  · rw [if_neg (by omega)] at c4
    exact absurd rfl c4
set_option maxHeartbeats 1000000 in
theorem lp_X3_removeI (l : Launch) {σ0 : Sg} {j h r0 m : Nat} (hr : r0 < m) (hmn : m < tN σ0 j h) (h30 : tN σ0 j h ≤ mst j) (kk : ∀ σ : Sg, TW j h (tN σ0 j h, fR (tabs σ0 j h) r0 (m + 1) 0) σ0 σ → G l (Rm 1) RX3 cX3_remove 4 none (fun o σ' => o = none ∧ TW j h (trem (tabs σ0 j h) r0) σ0 σ') 13 [some (vR (0, j, h)), some (vI (nI r0)), some (vI (nI (m + 1))), some (vI (nI (wid j)))] [] σ) : ∀ (k c : Nat) (σ : Sg), c ≤ wid j → wid j < c + k → TW j h (tN σ0 j h, fR (tabs σ0 j h) r0 m c) σ0 σ → G l (Rm 1) RX3 cX3_remove 4 none (fun o σ' => o = none ∧ TW j h (trem (tabs σ0 j h) r0) σ0 σ') 23 [some (vR (0, j, h)), some (vI (nI r0)), some (vI (nI m)), some (vI (nI c))] [] σ := by
  intro k
  induction k with
  | zero =>
    intro c σ hc hk hI
    exact absurd hk (by omega)
  | succ k ih =>
    intro c σ hc hk hI
    refine g_blk (pc' := 28) (loc' := [some (vR (0, j, h)), some (vI (nI r0)), some (vI (nI m)), some (vI (nI c))]) (st' := [vI (tWid j), vI (nI c)]) (σ' := σ) fl3_ok [(23, .iload_n 3), (24, .aload_n 0), (25, .getfield 15)] (by decide +kernel) rfl rfl ?_
    refine g_icmp_ge (off := 23) (tgt := 51) (by decide +kernel) (by decide) (fun c28 => ?_) (fun c28 => ?_)
    · rw [tWid_eq, nI_leI (by have := wid_le j; omega) (by have := wid_le j; omega)] at c28
      refine g_blk (pc' := 13) (loc' := [some (vR (0, j, h)), some (vI (nI r0)), some (vI ((nI m) + (1 : Int32))), some (vI (nI c))]) (st' := []) (σ' := σ) fl3_ok [(51, .iinc 2 1), (54, .goto (-41))] (by decide +kernel) rfl rfl ?_
      have ec : c = wid j := by omega
      subst ec
      rw [nI_1]
      exact kk σ ⟨by rw [hI.1, fR_next (T := tabs σ0 j h) hr (fun r c hc => tabs_can (by omega))], hI.2.1, hI.2.2⟩
    · rw [tWid_eq, nI_leI (by have := wid_le j; omega) (by have := wid_le j; omega)] at c28
      refine g_blk (pc' := 39) (loc' := [some (vR (0, j, h)), some (vI (nI r0)), some (vI (nI m)), some (vI (nI c))]) (st' := [vI (nI c), vI (nI m), vR (0, j, h), vI (nI c), vI ((nI m) - (1 : Int32)), vR (0, j, h)]) (σ' := σ) fl3_ok [(31, .aload_n 0), (32, .iload_n 2), (33, .iconst 1), (34, .isub), (35, .iload_n 3), (36, .aload_n 0), (37, .iload_n 2), (38, .iload_n 3)] (by decide +kernel) rfl rfl ?_
      refine g_callVp (0, j, h) [vI (nI m), vI (nI c)] [vI (nI c), vI ((nI m) - (1 : Int32)), vR (0, j, h)] vl_RX3_31 mi_X3_cell (c_X3_cell l (nI m) (nI c) hI.2.1) rfl rfl rfl rfl ⟨Nat.le_of_ble_eq_true rfl, Nat.le_of_ble_eq_true rfl⟩ rfl (Nat.le_of_ble_eq_true rfl) (by decide +kernel) ?_
      refine g_callV (0, j, h) [vI ((nI m) - (1 : Int32)), vI (nI c), vI (tcell (tabs σ j h) (nI m) (nI c))] [] vl_RX3_34 mi_X3_write (c_X3_write l ((nI m) - (1 : Int32)) (nI c) (tcell (tabs σ j h) (nI m) (nI c)) hI.2.1) rfl rfl rfl rfl ⟨Nat.le_of_ble_eq_true rfl, Nat.le_of_ble_eq_true rfl⟩ rfl (Nat.le_of_ble_eq_true rfl) (by decide +kernel) (fun o σ1 hPσ1 => ?_)
      obtain ⟨rfl, hWσ1⟩ := hPσ1
      refine g_blk (pc' := 23) (loc' := [some (vR (0, j, h)), some (vI (nI r0)), some (vI (nI m)), some (vI ((nI c) + (1 : Int32)))]) (st' := []) (σ' := σ1) fl3_ok [(45, .iinc 3 1), (48, .goto (-25))] (by decide +kernel) rfl rfl ?_
      rw [nI_1]
      exact ih (c + 1) σ1 (by omega) (by omega) ⟨by rw [hWσ1.1, hI.1, tcell_nI (by have := mst_le j; omega) (by have := wid_le j; omega)]; show twr (wid j) (tN σ0 j h, fR (tabs σ0 j h) r0 m c) (nI m - 1) (nI c) (fR (tabs σ0 j h) r0 m c m c) = _; rw [show fR (tabs σ0 j h) r0 m c m c = (tabs σ0 j h).2 m c from by unfold fR; rw [if_neg (by omega), if_neg (by omega)], show nI m - 1 = nI (m - 1) from by rw [show m = (m - 1) + 1 from by omega, nI_pred, Nat.add_sub_cancel], fR_step (by omega) hmn (by omega) (by have := mst_le j; omega) (by have := wid_le j; omega)], hWσ1.2.1, hI.2.2.tr hWσ1.2.2⟩
set_option maxHeartbeats 1000000 in
theorem lp_X3_remove (l : Launch) {σ0 : Sg} {j h r0 : Nat} (hrn : r0 < tN σ0 j h) (h30 : tN σ0 j h ≤ mst j) : ∀ (k m : Nat) (σ : Sg), r0 < m → m ≤ tN σ0 j h → tN σ0 j h < m + k → TW j h (tN σ0 j h, fR (tabs σ0 j h) r0 m 0) σ0 σ → G l (Rm 1) RX3 cX3_remove 4 none (fun o σ' => o = none ∧ TW j h (trem (tabs σ0 j h) r0) σ0 σ') 13 [some (vR (0, j, h)), some (vI (nI r0)), some (vI (nI m)), none] [] σ := by
  intro k
  induction k with
  | zero =>
    intro m σ hr hm hk hI
    exact absurd hk (by omega)
  | succ k ih =>
    intro m σ hr hm hk hI
    refine g_blk (pc' := 18) (loc' := [some (vR (0, j, h)), some (vI (nI r0)), some (vI (nI m)), none]) (st' := [vI (σ.1 (0, j, h) 3), vI (nI m)]) (σ' := σ) fl3_ok [(13, .iload_n 2), (14, .aload_n 0), (15, .getfield 28)] (by decide +kernel) rfl rfl ?_
    refine g_icmp_ge (off := 39) (tgt := 57) (by decide +kernel) (by decide) (fun c18 => ?_) (fun c18 => ?_)
    · have hN : tN σ j h = tN σ0 j h := congrArg Prod.fst hI.1
      rw [hI.2.1.2, hN, nI_leI (by have := mst_le j; omega) (by have := mst_le j; omega)] at c18
      refine g_blk (pc' := 67) (loc' := [some (vR (0, j, h)), some (vI (nI r0)), some (vI (nI m)), none]) (st' := []) (σ' := (upd2 σ.1 (0, j, h) 3 ((σ.1 (0, j, h) 3) - (1 : Int32)), σ.2)) fl3_ok [(57, .aload_n 0), (58, .dup), (59, .getfield 28), (62, .iconst 1), (63, .isub), (64, .putfield 28)] (by decide +kernel) rfl rfl ?_
      generalize hσ1 : ((upd2 σ.1 (0, j, h) 3 ((σ.1 (0, j, h) 3) - (1 : Int32)), σ.2) : Sg) = σ1
      have em : m = tN σ0 j h := by omega
      rw [hI.2.1.2, hN, show nI (tN σ0 j h) - 1 = nI (tN σ0 j h - 1) from by rw [show tN σ0 j h = (tN σ0 j h - 1) + 1 from by omega, nI_pred, Nat.add_sub_cancel]] at hσ1
      obtain ⟨h1, h2, h3, h4⟩ := tabs_rows (m := tN σ0 j h - 1) (by omega) hσ1
      have hfun : (tabs σ1 j h).2 = (trem (tabs σ0 j h) r0).2 := by
        funext r c
        rw [h3]
        show _ = if r < r0 then (tabs σ0 j h).2 r c else (tabs σ0 j h).2 (r + 1) c
        by_cases hin : r < tN σ0 j h - 1 ∧ c < wid j
        · rw [if_pos hin]
          have e1 : (tabs σ j h).2 r c = σ.1 (1, j, h) (r * wid j + c) := by rw [tabs]; simp only; rw [if_pos ⟨by rw [hN]; omega, hin.2⟩]
          rw [← e1, hI.1]
          show fR (tabs σ0 j h) r0 m 0 r c = _
          unfold fR
          rw [if_pos (by omega)]
        · rw [if_neg hin]
          by_cases h5 : r < r0
          · rw [if_pos h5, tabs_can (by omega)]
          · rw [if_neg h5, tabs_can (by omega)]
      exact g_vret (by decide +kernel) ⟨rfl, Prod.ext h2 hfun, h1, hI.2.2.tr h4⟩
    · have hN : tN σ j h = tN σ0 j h := congrArg Prod.fst hI.1
      rw [hI.2.1.2, hN, nI_leI (by have := mst_le j; omega) (by have := mst_le j; omega)] at c18
      refine g_blk (pc' := 23) (loc' := [some (vR (0, j, h)), some (vI (nI r0)), some (vI (nI m)), some (vI (0 : Int32))]) (st' := []) (σ' := σ) fl3_ok [(21, .iconst 0), (22, .istore_n 3)] (by decide +kernel) rfl rfl ?_
      refine g_sub (loc' := [some (vR (0, j, h)), some (vI (nI r0)), some (vI (nI m)), some (vI 0)]) ⟨Or.inr rfl, Or.inr rfl, Or.inr rfl, Or.inr rfl, trivial⟩ ?_
      exact lp_X3_removeI l hr (by omega) h30 (fun σ1 hI1 => g_sub (loc' := [some (vR (0, j, h)), some (vI (nI r0)), some (vI (nI (m + 1))), none]) ⟨Or.inr rfl, Or.inr rfl, Or.inr rfl, Or.inl rfl, trivial⟩ (ih (m + 1) σ1 (by omega) (by omega) (by omega) hI1)) (wid j + 1) 0 σ (Nat.zero_le _) (by omega) hI
set_option maxHeartbeats 1000000 in
theorem c_X3_remove (l : Launch) {σ : Sg} {j h r0 : Nat} (hT : TOK σ j h) (hr : r0 < tN σ j h) : Con l 1 yX3_remove cX3_remove 4 none [vR (0, j, h), vI (nI r0)] σ (fun o σ' => o = none ∧ TW j h (trem (tabs σ j h) r0) σ σ') := by
  refine con_of pn_X3_remove (Nat.le_of_ble_eq_true rfl) (fun hPK hok => ?_)
  show G l (Rm 1) RX3 cX3_remove 4 none _ 0 [some (vR (0, j, h)), some (vI (nI r0)), none, none] [] σ
  refine g_blk (pc' := 2) (loc' := [some (vR (0, j, h)), some (vI (nI r0)), none, none]) (st' := [vI (nI r0), vR (0, j, h)]) (σ' := σ) fl3_ok [(0, .aload_n 0), (1, .iload_n 1)] (by decide +kernel) rfl rfl ?_
  refine g_callVp (0, j, h) [vI (nI r0)] [] vl_RX3_42 mi_X3_has (c_X3_has l (nI r0) hT) rfl rfl rfl rfl ⟨Nat.le_of_ble_eq_true rfl, Nat.le_of_ble_eq_true rfl⟩ rfl (Nat.le_of_ble_eq_true rfl) (by decide +kernel) ?_
  refine g_if_ne (off := 4) (tgt := 9) (by decide +kernel) (by decide) (fun c5 => ?_) (fun c5 => ?_)
  · refine g_blk (pc' := 13) (loc' := [some (vR (0, j, h)), some (vI (nI r0)), some (vI ((nI r0) + (1 : Int32))), none]) (st' := []) (σ' := σ) fl3_ok [(9, .iload_n 1), (10, .iconst 1), (11, .iadd), (12, .istore_n 2)] (by decide +kernel) rfl rfl ?_
    rw [nI_1]
    exact lp_X3_remove l hr hT.1 (tN σ j h + 1) (r0 + 1) σ (by omega) (by omega) (by omega) ⟨by rw [fR_0]; rfl, hT, FrT.rf⟩
  · rw [hasT_in (vp_in_nI hr (by have := mst_le j; have := hT.1; omega))] at c5
    exact absurd c5 (by decide)
set_option maxHeartbeats 1000000 in
theorem c_X3_copyFrom (l : Launch) {σ : Sg} {j h h2 : Nat} (hT : TOK σ j h2) : Con l 1 yX3_copyFrom cX3_copyFrom 2 none [vR (0, j, h), vR (0, j, h2)] σ (fun o σ' => o = none ∧ TW j h (tabs σ j h2) σ σ') := by
  refine con_of pn_X3_copyFrom (Nat.le_of_ble_eq_true rfl) (fun hPK hok => ?_)
  show G l (Rm 1) RX3 cX3_copyFrom 2 none _ 0 [some (vR (0, j, h)), some (vR (0, j, h2))] [] σ
  refine g_blk (pc' := 14) (loc' := [some (vR (0, j, h)), some (vR (0, j, h2))]) (st' := [vR (1, j, h), vI (0 : Int32), vR (1, j, h), vI (0 : Int32), vR (1, j, h2)]) (σ' := σ) fl3_ok [(0, .aload_n 1), (1, .getfield 24), (4, .iconst 0), (5, .aload_n 0), (6, .getfield 24), (9, .iconst 0), (10, .aload_n 0), (11, .getfield 24)] (by decide +kernel) rfl rfl ?_
  refine g_alen (x := (0, tLen j)) rfl (Nat.le_of_ble_eq_true rfl) (by decide +kernel) ?_
  refine g_blk (pc' := 19) (loc' := [some (vR (0, j, h)), some (vR (0, j, h2))]) (st' := [vR (1, j, h2), vI (Int32.ofNat (tLen j)), vI (0 : Int32), vR (1, j, h), vI (0 : Int32), vR (1, j, h2)]) (σ' := σ) fl3_ok [(15, .aload_n 1), (16, .getfield 24)] (by decide +kernel) rfl rfl ?_
  refine g_alen (x := (0, tLen j)) rfl (Nat.le_of_ble_eq_true rfl) (by decide +kernel) ?_
  refine g_min jl_RX3_46 ⟨Nat.le_of_ble_eq_true rfl, Nat.le_of_ble_eq_true rfl⟩ (by decide +kernel) ?_
  rw [ite_self]
  have hL : tLen j < 2 ^ 31 := by rw [tLen_eq]; have := Nat.mul_le_mul (mst_le j) (wid_le j); omega
  have hcl : (Int32.ofNat (tLen j)).toNatClampNeg = tLen j := nI_clamp hL
  refine g_copy (n0 := tLen j) (n1 := tLen j) jl_RX3_49 rfl rfl (by decide) (by decide) (nI_pos hL) (by rw [hcl]; show 0 + _ ≤ _; omega) (by rw [hcl]; show 0 + _ ≤ _; omega) ⟨Nat.le_of_ble_eq_true rfl, Nat.le_of_ble_eq_true (by decide +kernel)⟩ (by decide +kernel) ?_
  show G l _ _ _ _ _ _ _ _ _ (cpS σ (1, j, h) (va_cpy (σ.1 (1, j, h2)) (σ.1 (1, j, h)) (0 : Int32).toNatClampNeg (0 : Int32).toNatClampNeg (Int32.ofNat (tLen j)).toNatClampNeg))
  generalize hσa : cpS σ (1, j, h) (va_cpy (σ.1 (1, j, h2)) (σ.1 (1, j, h)) (0 : Int32).toNatClampNeg (0 : Int32).toNatClampNeg (Int32.ofNat (tLen j)).toNatClampNeg) = σa
  refine g_blk (pc' := 34) (loc' := [some (vR (0, j, h)), some (vR (0, j, h2))]) (st' := []) (σ' := (upd2 σa.1 (0, j, h) 3 (σa.1 (0, j, h2) 3), σa.2)) fl3_ok [(26, .aload_n 0), (27, .aload_n 1), (28, .getfield 28), (31, .putfield 28)] (by decide +kernel) rfl rfl ?_
  generalize hσ1 : ((upd2 σa.1 (0, j, h) 3 (σa.1 (0, j, h2) 3), σa.2) : Sg) = σ1
  have ea : σa.1 (0, j, h2) = σ.1 (0, j, h2) := by rw [← hσa]; exact cpS_ne ne01
  have ea1 : ∀ i, i < tLen j → σa.1 (1, j, h) i = σ.1 (1, j, h2) i := by
    intro i hi
    rw [← hσa, cpS_eq, hcl]
    show (if 0 ≤ i ∧ i < 0 + tLen j then σ.1 (1, j, h2) (0 + (i - 0)) else σ.1 (1, j, h) i) = σ.1 (1, j, h2) i
    rw [if_pos (by omega), Nat.zero_add, Nat.sub_zero]
  have hF : FrT j h σ σa := ⟨fun q h1 h3 => by rw [← hσa]; exact cpS_ne h3, by rw [← hσa]; rfl⟩
  rw [ea, hT.2] at hσ1
  obtain ⟨h1, h3, h4, h5⟩ := tabs_rows (m := tN σ j h2) hT.1 hσ1
  exact g_vret (by decide +kernel) ⟨rfl, Prod.ext h3 (by
    funext r c
    rw [h4, tabs]
    simp only
    by_cases hin : r < tN σ j h2 ∧ c < wid j
    · rw [if_pos hin, if_pos hin, ea1 _ (by rw [tLen_eq]; exact flat_lt (Nat.lt_of_lt_of_le hin.1 hT.1) hin.2)]
    · rw [if_neg hin, if_neg hin]), h1, hF.tr h5⟩
end
section
/-! A HOUSE as a value: five tables and four numbers; what each method of it answers and makes -/
abbrev HA : Type := (Nat → TV) × (Nat → Int32)
def habs (σ : Sg) (h : Nat) : HA := (fun j => if j < 5 then tabs σ j h else (0, fun _ _ => 0), fun k => if 5 ≤ k ∧ k ≤ 8 then σ.1 (2, 0, h) k else 0)
def setT (S : HA) (j : Nat) (T : TV) : HA := (fun i => if i = j then T else S.1 i, S.2)
def setF (S : HA) (k : Nat) (x : Int32) : HA := (S.1, fun i => if i = k then x else S.2 i)
def HOK (σ : Sg) (h : Nat) : Prop := h < 8 ∧ ∀ j, j < 5 → TOK σ j h
def FrH (h : Nat) (σ σ' : Sg) : Prop := (∀ q, q ≠ (2, 0, h) → (∀ j, j < 5 → q ≠ (0, j, h) ∧ q ≠ (1, j, h)) → σ'.1 q = σ.1 q) ∧ σ'.2 = σ.2
def HW (h : Nat) (S' : HA) (σ σ' : Sg) : Prop := habs σ' h = S' ∧ HOK σ' h ∧ FrH h σ σ'
theorem FrH.rf {h : Nat} {σ : Sg} : FrH h σ σ := ⟨fun _ _ _ => rfl, rfl⟩
theorem FrH.tr {h : Nat} {σ σ1 σ2 : Sg} (a : FrH h σ σ1) (b : FrH h σ1 σ2) : FrH h σ σ2 := ⟨fun q h1 h2 => (b.1 q h1 h2).trans (a.1 q h1 h2), b.2.trans a.2⟩
theorem HW.tr {h : Nat} {S1 S2 : HA} {σ σ1 σ2 : Sg} (a : HW h S1 σ σ1) (b : HW h S2 σ1 σ2) : HW h S2 σ σ2 := ⟨b.1, b.2.1, a.2.2.tr b.2.2⟩
theorem tabs_of {σ σ' : Sg} {j h : Nat} (h0 : σ'.1 (0, j, h) = σ.1 (0, j, h)) (h1 : σ'.1 (1, j, h) = σ.1 (1, j, h)) : tabs σ' j h = tabs σ j h ∧ (TOK σ j h → TOK σ' j h) := by
  have e : tN σ' j h = tN σ j h := by rw [tN, tN, h0]
  refine ⟨by rw [tabs, tabs, e, h1], fun hT => ?_⟩
  rw [TOK, e, h0]
  exact hT
theorem hw_T {σ σ' : Sg} {j h : Nat} {T : TV} (hH : HOK σ h) (hj : j < 5) (hT : TW j h T σ σ') : HW h (setT (habs σ h) j T) σ σ' := by
  obtain ⟨h1, h2, h3, h4⟩ := hT
  have ho : ∀ i, i ≠ j → tabs σ' i h = tabs σ i h ∧ (TOK σ i h → TOK σ' i h) := fun i hi => tabs_of (h3 (0, i, h) (by simp [hi]) (by simp)) (h3 (1, i, h) (by simp) (by simp [hi]))
  refine ⟨Prod.ext ?_ ?_, ⟨hH.1, fun i hi => ?_⟩, ⟨fun q h5 h6 => h3 q (h6 j hj).1 (h6 j hj).2, h4⟩⟩
  · funext i
    show (if i < 5 then tabs σ' i h else _) = if i = j then T else if i < 5 then tabs σ i h else _
    by_cases he : i = j
    · subst he
      rw [if_pos hj, if_pos rfl, h1]
    · rw [if_neg he, (ho i he).1]
  · funext k
    show (if 5 ≤ k ∧ k ≤ 8 then σ'.1 (2, 0, h) k else 0) = if 5 ≤ k ∧ k ≤ 8 then σ.1 (2, 0, h) k else 0
    rw [h3 (2, 0, h) (by simp) (by simp)]
  · by_cases he : i = j
    · subst he; exact h2
    · exact (ho i he).2 (hH.2 i hi)
theorem hw_F {σ σ' : Sg} {k h : Nat} {x : Int32} (hH : HOK σ h) (hk : 5 ≤ k ∧ k ≤ 8) (e : (upd2 σ.1 (2, 0, h) k x, σ.2) = σ') : HW h (setF (habs σ h) k x) σ σ' := by
  subst e
  have ho : ∀ q, q ≠ (2, 0, h) → (upd2 σ.1 (2, 0, h) k x, σ.2).1 q = σ.1 q := fun q hq => upd2_ne σ.1 (q := (2, 0, h)) (p := q) k x hq
  have ht : ∀ i, tabs (upd2 σ.1 (2, 0, h) k x, σ.2) i h = tabs σ i h ∧ (TOK σ i h → TOK (upd2 σ.1 (2, 0, h) k x, σ.2) i h) := fun i => tabs_of (ho (0, i, h) (by simp)) (ho (1, i, h) (by simp))
  refine ⟨Prod.ext ?_ ?_, ⟨hH.1, fun i hi => (ht i).2 (hH.2 i hi)⟩, ⟨fun q h5 h6 => ho q h5, rfl⟩⟩
  · funext i
    show (if i < 5 then tabs (upd2 σ.1 (2, 0, h) k x, σ.2) i h else _) = if i < 5 then tabs σ i h else _
    rw [(ht i).1]
  · funext i
    show (if 5 ≤ i ∧ i ≤ 8 then upd2 σ.1 (2, 0, h) k x (2, 0, h) i else 0) = if i = k then x else if 5 ≤ i ∧ i ≤ 8 then σ.1 (2, 0, h) i else 0
    rw [upd2_same]
    unfold upd
    by_cases he : i = k
    · subst he
      rw [if_pos hk, if_pos rfl, if_pos rfl]
    · rw [if_neg he, if_neg he]
def cl (S : HA) (j : Nat) (r c : Int32) : Int32 := tcell (S.1 j) r c
def wr (S : HA) (j : Nat) (r c v : Int32) : HA := setT S j (twr (wid j) (S.1 j) r c v)
def inc (S : HA) (j : Nat) (r c v : Int32) : HA := wr S j r c (cl S j r c + v)
def app (S : HA) (j : Nat) : HA := setT S j (tapp (S.1 j))
def sz (S : HA) (j : Nat) : Nat := (S.1 j).1
def fullS (S : HA) (j : Nat) : Int32 := if mst j ≤ sz S j then 1 else 0
section CT
variable {σ : Sg} {h : Nat}
theorem ha_T (j : Nat) (hj : j < 5) : (habs σ h).1 j = tabs σ j h := if_pos hj
theorem ha_N (hH : HOK σ h) (j : Nat) (hj : j < 5) : sz (habs σ h) j ≤ mst j := by
  rw [sz, ha_T j hj]
  exact (hH.2 j hj).1
theorem ct_size (l : Launch) (hH : HOK σ h) (j : Nat) (hj : j < 5) : Con l 0 yX3_size cX3_size 1 (some .int) [vR (0, j, h)] σ (pureP (nI (sz (habs σ h) j)) σ) := by
  rw [sz, ha_T j hj]; exact c_X3_size l (hH.2 j hj)
theorem ct_isFull (l : Launch) (hH : HOK σ h) (j : Nat) (hj : j < 5) : Con l 0 yX3_isFull cX3_isFull 1 (some .boolean) [vR (0, j, h)] σ (pureP (fullS (habs σ h) j) σ) := by
  rw [fullS, sz, ha_T j hj]; exact c_X3_isFull l (hH.2 j hj)
theorem ct_has (l : Launch) (hH : HOK σ h) (j : Nat) (hj : j < 5) (x : Int32) : Con l 0 yX3_has cX3_has 2 (some .boolean) [vR (0, j, h), vI x] σ (pureP (hasT x (sz (habs σ h) j)) σ) := by
  rw [sz, ha_T j hj]; exact c_X3_has l x (hH.2 j hj)
theorem ct_cell (l : Launch) (hH : HOK σ h) (j : Nat) (hj : j < 5) (row col : Int32) : Con l 0 yX3_cell cX3_cell 4 (some .int) [vR (0, j, h), vI row, vI col] σ (pureP (cl (habs σ h) j row col) σ) := by
  rw [cl, ha_T j hj]; exact c_X3_cell l row col (hH.2 j hj)
theorem ct_write (l : Launch) (hH : HOK σ h) (j : Nat) (hj : j < 5) (row col v : Int32) : Con l 0 yX3_write cX3_write 5 none [vR (0, j, h), vI row, vI col, vI v] σ (fun o σ' => o = none ∧ HW h (wr (habs σ h) j row col v) σ σ') := by
  rw [wr, ha_T j hj]; exact con_mono (c_X3_write l row col v (hH.2 j hj)) (fun o σ' hp => ⟨hp.1, hw_T hH hj hp.2⟩)
theorem ct_increase (l : Launch) (hH : HOK σ h) (j : Nat) (hj : j < 5) (row col v : Int32) : Con l 1 yX3_increase cX3_increase 4 none [vR (0, j, h), vI row, vI col, vI v] σ (fun o σ' => o = none ∧ HW h (inc (habs σ h) j row col v) σ σ') := by
  rw [inc, wr, cl, ha_T j hj]; exact con_mono (c_X3_increase l row col v (hH.2 j hj)) (fun o σ' hp => ⟨hp.1, hw_T hH hj hp.2⟩)
theorem ct_exchange (l : Launch) (hH : HOK σ h) (j : Nat) (hj : j < 5) (row col v : Int32) : Con l 1 yX3_exchange cX3_exchange 5 (some .int) [vR (0, j, h), vI row, vI col, vI v] σ (fun o σ' => o = some (vI (cl (habs σ h) j row col)) ∧ HW h (wr (habs σ h) j row col v) σ σ') := by
  rw [wr, cl, ha_T j hj]; exact con_mono (c_X3_exchange l row col v (hH.2 j hj)) (fun o σ' hp => ⟨hp.1, hw_T hH hj hp.2⟩)
theorem ct_append (l : Launch) (hH : HOK σ h) (j : Nat) (hj : j < 5) (hn : sz (habs σ h) j < mst j) : Con l 1 yX3_append cX3_append 3 (some .int) [vR (0, j, h)] σ (fun o σ' => o = some (vI (nI (sz (habs σ h) j))) ∧ HW h (app (habs σ h) j) σ σ') := by
  rw [app]; rw [sz, ha_T j hj] at hn ⊢; exact con_mono (c_X3_append l (hH.2 j hj) hn) (fun o σ' hp => ⟨hp.1, hw_T hH hj hp.2⟩)
theorem ct_remove (l : Launch) (hH : HOK σ h) (j : Nat) (hj : j < 5) {r0 : Nat} (hn : r0 < sz (habs σ h) j) : Con l 1 yX3_remove cX3_remove 4 none [vR (0, j, h), vI (nI r0)] σ (fun o σ' => o = none ∧ HW h (setT (habs σ h) j (trem ((habs σ h).1 j) r0)) σ σ') := by
  rw [sz] at hn; rw [ha_T j hj] at hn ⊢; exact con_mono (c_X3_remove l (hH.2 j hj) hn) (fun o σ' hp => ⟨hp.1, hw_T hH hj hp.2⟩)
theorem ct_clear (l : Launch) (hH : HOK σ h) (j : Nat) (hj : j < 5) : Con l 0 yX3_clear cX3_clear 1 none [vR (0, j, h)] σ (fun o σ' => o = none ∧ HW h (setT (habs σ h) j (0, fun _ _ => 0)) σ σ') :=
  con_mono (c_X3_clear l (hH.2 j hj)) (fun o σ' hp => ⟨hp.1, hw_T hH hj hp.2⟩)
theorem ct_copy (l : Launch) {h2 : Nat} (hH : HOK σ h) (hH2 : HOK σ h2) (j : Nat) (hj : j < 5) : Con l 1 yX3_copyFrom cX3_copyFrom 2 none [vR (0, j, h), vR (0, j, h2)] σ (fun o σ' => o = none ∧ HW h (setT (habs σ h) j ((habs σ h2).1 j)) σ σ') := by
  rw [ha_T (h := h2) j hj]; exact con_mono (c_X3_copyFrom l (hH2.2 j hj)) (fun o σ' hp => ⟨hp.1, hw_T hH hj hp.2⟩)
end CT
-- ---- what the methods answer and make (as the class does it)
def isInS (x a b : Int32) : Int32 := if x < a then 0 else if b < x then 0 else 1
def bitS (b : Int32) : Int32 := if b = 0 then 0 else 1
def remS (x y : Int32) : Int32 := x - x / y * y
def awayS (S : HA) (r : Int32) : Int32 := isInS (S.2 5) (cl S 0 r 1) (cl S 0 r 2)
def loadS (S : HA) (r : Int32) : Int32 := cl S 0 r 3 + cl S 0 r 6
def addResS (S : HA) (w : Int32) : HA :=
  let r := nI (sz S 0)
  wr (wr (wr (app S 0) 0 r 0 w) 0 r 1 0) 0 r 2 (-1)
def addAreaS (S : HA) (e p g : Int32) : HA :=
  let r := nI (sz S 1)
  wr (wr (wr (app S 1) 1 r 0 e) 1 r 1 p) 1 r 2 g
def deepS (S : HA) (a : Int32) : Int32 := if cl S 1 a 3 < cl S 4 0 3 then 0 else 1
def dueS (S : HA) (a : Int32) : Int32 := if cl S 1 a 1 ≤ 0 then 0 else if ¬ remS (S.2 5) (cl S 1 a 1) = remS a (cl S 1 a 1) then 0 else 1
def dirtL (S : HA) : Nat → Int32
  | 0 => 0
  | n + 1 => if dirtL S n < cl S 1 (nI n) 3 then cl S 1 (nI n) 3 else dirtL S n
def cleanS (S : HA) (a : Int32) : HA := inc (wr S 1 a 3 0) 1 a 4 1
def effS (S : HA) (a : Int32) : Int32 := if deepS S a = 0 then (if dueS S a = 0 then 0 else cl S 1 a 0) else (cl S 4 0 2 * cl S 1 a 0 + 1) / 2
def nextL (S : HA) (f : Int32) : Nat → Int32 × Int32
  | 0 => (-6, 0)
  | n + 1 => if ¬ (f >>> (nI n &&& 31)) &&& 1 = 0 then nextL S f n else if effS S (nI n) ≤ (nextL S f n).2 then nextL S f n else (nI n, effS S (nI n))
def nextS (S : HA) (f : Int32) : Int32 := (nextL S f (sz S 1)).1
def addTS (S : HA) (a e d : Int32) : HA :=
  let t := nI (sz S 2)
  wr (wr (wr (app S 2) 2 t 0 a) 2 t 2 e) 2 t 4 (bitS d)
def mkS : Nat → HA → Int32 → HA
  | 0, S, _ => S
  | k + 1, S, f =>
    if nextS S f = -6 then S else
    let a := nextS S f
    let e := effS S a
    let d := deepS S a
    mkS k (if d = 0 then addTS S a e d else addTS (addTS S a e d) a e d) (f ||| 1 <<< (a &&& 31))
def twinS (S : HA) (t : Int32) : Int32 := if t ≤ 0 then 0 else if ¬ cl S 2 (t - 1) 0 = cl S 2 t 0 then 0 else 1
def aheadS (S : HA) (r o : Int32) : Int32 :=
  if loadS S r * cl S 0 o 0 = loadS S o * cl S 0 r 0 then (if cl S 0 r 4 ≤ cl S 0 o 4 then 0 else 1)
  else (if loadS S o * cl S 0 r 0 ≤ loadS S r * cl S 0 o 0 then 0 else 1)
def freeS (S : HA) (b r : Int32) : Int32 := if r = b then 0 else if ¬ awayS S r = 0 then 0 else 1
def leastL (S : HA) (b : Int32) : Nat → Int32
  | 0 => -6
  | n + 1 => if freeS S b (nI n) = 0 then leastL S b n else if leastL S b n = -6 then nI n else if aheadS S (nI n) (leastL S b n) = 0 then leastL S b n else nI n
def leastS (S : HA) (b : Int32) : Int32 := if ¬ leastL S b (sz S 0) = -6 then leastL S b (sz S 0) else b
def give1 (S : HA) (t : Int32) : HA :=
  let r := leastS S (if twinS S t = 0 then -6 else cl S 2 (t - 1) 1)
  let S1 := wr S 2 t 1 r
  inc S1 0 r 6 (cl S1 2 t 2)
def giveF : Nat → Nat → HA → HA
  | 0, _, S => S
  | k + 1, t, S => giveF k (t + 1) (give1 S (nI t))
def planS (S : HA) : HA :=
  let S0 := setF S 6 1
  if leastS S0 (-6) = -6 then S0 else
  let S1 := mkS (sz S0 1) S0 0
  giveF (sz S1 2) 0 S1
def openS (S : HA) (t : Int32) : Int32 := if hasT t (sz S 2) = 0 then 0 else if ¬ cl S 2 t 3 = 0 then 0 else 1
def openOfS (S : HA) (t r : Int32) : Int32 := if openS S t = 0 then 0 else if ¬ cl S 2 t 1 = r then 0 else 1
def cntL (S : HA) : Nat → Int32
  | 0 => 0
  | n + 1 => cntL S n + bitS (openS S (nI n))
def openDeepS (S : HA) (t : Int32) : Int32 := if openS S t = 0 then 0 else if ¬ cl S 2 t 4 = 1 then 0 else 1
def cntDL (S : HA) : Nat → Int32
  | 0 => 0
  | n + 1 => cntDL S n + bitS (openDeepS S (nI n))
def cntOL (S : HA) (r : Int32) : Nat → Int32
  | 0 => 0
  | n + 1 => cntOL S r n + bitS (openOfS S (nI n) r)
def firstF (S : HA) (r : Int32) : Nat → Nat → Int32
  | 0, _ => -6
  | k + 1, t => if openOfS S (nI t) r = 0 then firstF S r k (t + 1) else nI t
def twinOpenS (S : HA) (t : Int32) : Int32 := if ¬ cl S 2 t 4 = 0 then openS S (if twinS S t = 0 then t + 1 else t - 1) else 0
def dropT (t : Int32) : Nat → TV → TV
  | 0, T => T
  | k + 1, T => if tcell T (nI k) 0 = t then dropT t k (trem T k) else if ¬ tcell T (nI k) 1 = t then dropT t k T else dropT t k (trem T k)
def dropS (S : HA) (t : Int32) : HA := setT S 3 (dropT t (sz S 3) (S.1 3))
def finS (S : HA) (t : Int32) : HA :=
  let e := cl S 2 t 2
  let r := cl S 2 t 1
  let S1 := wr S 2 t 3 1
  let S2 := setF S1 7 (S1.2 7 + 1)
  let S3 := inc (inc S2 0 r 6 (-e)) 0 r 3 e
  let S4 := if ¬ twinOpenS S3 t = 0 then S3 else cleanS S3 (cl S3 2 t 0)
  dropS S4 t
def finG (last : Int32) : Nat → Nat → HA → HA
  | 0, _, S => S
  | k + 1, t, S => if last < nI t then S else if sz S 2 ≤ t then S else finG last k (t + 1) (if openS S (nI t) = 0 then S else finS S (nI t))
def finFT (S : HA) (f : Nat) (last : Int32) : HA := finG last (sz S 2) f S
def payS (S : HA) (r a : Int32) : HA :=
  let p := if cl S 0 r 4 < cl S 1 a 0 then cl S 0 r 4 else cl S 1 a 0
  cleanS (inc (inc S 0 r 4 (-p)) 0 r 3 p) a
def skipS (S : HA) (t : Int32) : HA :=
  let e := cl S 2 t 2
  let r := cl S 2 t 1
  let S1 := setF S 8 (S.2 8 + 1)
  let S2 := inc (inc S1 0 r 6 (-e)) 0 r 4 e
  inc S2 0 r 5 (cl S2 4 0 0)
def skipF : Nat → Nat → HA → HA
  | 0, _, S => S
  | k + 1, t, S => skipF k (t + 1) (if openS S (nI t) = 0 then S else skipS S (nI t))
def decayF (d : Int32) : Nat → Nat → HA → HA
  | 0, _, S => S
  | k + 1, r, S => decayF d k (r + 1) (wr S 0 (nI r) 5 (cl S 0 (nI r) 5 * d / 100))
def growF : Nat → Nat → HA → HA
  | 0, _, S => S
  | k + 1, a, S => growF k (a + 1) (wr S 1 (nI a) 3 (if cl S 1 (nI a) 3 + cl S 1 (nI a) 2 < 1000 then cl S 1 (nI a) 3 + cl S 1 (nI a) 2 else 1000))
def endR (S1 : HA) : HA :=
  let S2 := setT (setT S1 2 (0, fun _ _ => 0)) 3 (0, fun _ _ => 0)
  let S3 := decayF (100 - cl S2 4 0 1) (sz S2 0) 0 S2
  let S4 := growF (sz S3 1) 0 S3
  let S5 := setF S4 5 (S4.2 5 + 1)
  setF S5 6 0
def endS (S : HA) : HA := endR (skipF (sz S 2) 0 S)
def canS (S : HA) (a b : Int32) : Int32 := if openS S a = 0 then 0 else if openS S b = 0 then 0 else if cl S 2 a 1 = cl S 2 b 1 then 0 else 1
def propF (S : HA) (a b : Int32) : Nat → Nat → Int32
  | 0, _ => 0
  | k + 1, s => if ¬ cl S 3 (nI s) 0 = a then propF S a b k (s + 1) else if ¬ cl S 3 (nI s) 1 = b then propF S a b k (s + 1) else 1
def addSwS (S : HA) (a b : Int32) : HA :=
  let s := nI (sz S 3)
  wr (wr (app S 3) 3 s 0 a) 3 s 1 b
def gainS (S : HA) (a b : Int32) : Int32 := cl S 2 b 2 - cl S 2 a 2
def accS (S : HA) (s : Int32) : HA :=
  let a := cl S 3 s 0
  let b := cl S 3 s 1
  let ra := cl S 2 a 1
  let rb := cl S 2 b 1
  let g := gainS S a b
  let S1 := wr (wr S 2 a 1 rb) 2 b 1 ra
  let S2 := inc (inc S1 0 ra 6 g) 0 rb 6 (-g)
  dropS (dropS S2 a) b
def rateS (S : HA) (r x : Int32) : Int32 := if cl S 0 r 0 ≤ 0 then 0 else 1000 * x / cl S 0 r 0
def amountS (S : HA) (w g lo x : Int32) (r : Int32) : Int32 := (if w = 0 then cl S 0 r 3 else loadS S r) + (if ¬ r = g then (if ¬ r = lo then 0 else -x) else x)
def spStep (p : Int32 × Int32) (q : Int32) : Int32 × Int32 := (if q < p.1 then q else p.1, if p.2 < q then q else p.2)
def spreadL (S : HA) (w g lo x : Int32) : Nat → Int32 × Int32
  | 0 => (2147483647, 0)
  | n + 1 => spStep (spreadL S w g lo x n) (rateS S (nI n) (amountS S w g lo x (nI n)))
def spreadS (S : HA) (w g lo x : Int32) : Int32 :=
  if 0 < (spreadL S w g lo x (sz S 0)).2 - (spreadL S w g lo x (sz S 0)).1 then (spreadL S w g lo x (sz S 0)).2 - (spreadL S w g lo x (sz S 0)).1 else 0
def spreadIfS (S : HA) (a b : Int32) : Int32 := spreadS S 1 (cl S 2 a 1) (cl S 2 b 1) (gainS S a b)
theorem g_remS {l : Launch} {R : Room} {own : String} {cc : ByteArray} {nL : Nat} {ret : Option FieldType} {post : Option AV → Sg → Prop} {pc : Nat} {loc : List (Option AV)} {st : List AV} {σ : Sg} {x y : Int32} (hd : decode cc pc = .ok (.irem, 1)) (hy : ¬ y = 0) (k : G l R own cc nL ret post (pc + 1) loc (vI (remS x y) :: st) σ) : G l R own cc nL ret post pc loc (vI y :: vI x :: st) σ := g_irem hd hy k
theorem setT_self (S : HA) (j : Nat) : setT S j (S.1 j) = S := by
  refine Prod.ext ?_ rfl
  funext i
  show (if i = j then S.1 j else S.1 i) = S.1 i
  by_cases h : i = j
  · rw [if_pos h, h]
  · rw [if_neg h]
theorem setT_tw (S : HA) (j : Nat) (T T' : TV) : setT (setT S j T) j T' = setT S j T' := by
  refine Prod.ext ?_ rfl
  funext i
  show (if i = j then T' else if i = j then T else S.1 i) = if i = j then T' else S.1 i
  by_cases h : i = j
  · rw [if_pos h, if_pos h]
  · rw [if_neg h, if_neg h, if_neg h]
theorem setT_at (S : HA) (j : Nat) (T : TV) : (setT S j T).1 j = T := if_pos rfl
theorem im1 (x : Int32) : x + (-1) = x - 1 := (Int32.sub_eq_add_neg x 1).symm
theorem hw_other {σ σ' : Sg} {h h2 : Nat} (hne : h2 ≠ h) (hF : FrH h σ σ') : habs σ' h2 = habs σ h2 ∧ (HOK σ h2 → HOK σ' h2) := by
  have e0 : ∀ j, σ'.1 (0, j, h2) = σ.1 (0, j, h2) := fun j => hF.1 (0, j, h2) (by simp) (fun i _ => ⟨by simp [hne], by simp⟩)
  have e1 : ∀ j, σ'.1 (1, j, h2) = σ.1 (1, j, h2) := fun j => hF.1 (1, j, h2) (by simp) (fun i _ => ⟨by simp, by simp [hne]⟩)
  have e2 : σ'.1 (2, 0, h2) = σ.1 (2, 0, h2) := hF.1 (2, 0, h2) (by simp [hne]) (fun i _ => ⟨by simp, by simp⟩)
  refine ⟨Prod.ext ?_ ?_, fun hH => ⟨hH.1, fun j hj => (tabs_of (e0 j) (e1 j)).2 (hH.2 j hj)⟩⟩
  · funext j
    show (if j < 5 then tabs σ' j h2 else _) = if j < 5 then tabs σ j h2 else _
    rw [(tabs_of (e0 j) (e1 j)).1]
  · funext k
    show (if 5 ≤ k ∧ k ≤ 8 then σ'.1 (2, 0, h2) k else 0) = if 5 ≤ k ∧ k ≤ 8 then σ.1 (2, 0, h2) k else 0
    rw [e2]
end
section
/-! HOUSE: readers (laid by wip/whole/mk11.py) -/
theorem isInS_bit (x a b : Int32) : isInS x a b = 0 ∨ isInS x a b = 1 := by
  rw [isInS]
  split
  · exact Or.inl rfl
  · split
    · exact Or.inl rfl
    · exact Or.inr rfl
theorem openS_bit (S : HA) (t : Int32) : openS S t = 0 ∨ openS S t = 1 := by
  rw [openS]
  split
  · exact Or.inl rfl
  · split
    · exact Or.inl rfl
    · exact Or.inr rfl
set_option maxHeartbeats 2000000 in
theorem c_X4_isIn (l : Launch) {σ : Sg}  (x a b : Int32) : Con l 0 yX4_isIn cX4_isIn 3 (some .boolean) [vI x, vI a, vI b] σ (pureP (isInS x a b) σ) := by
  refine con_of pn_X4_isIn (Nat.le_of_ble_eq_true rfl) (fun hPK hok => ?_)
  show G l (Rm 0) RX4 cX4_isIn 3 (some .boolean) _ 0 [some (vI x), some (vI a), some (vI b)] [] σ
  refine g_blk (pc' := 2) (loc' := [some (vI x), some (vI a), some (vI b)]) (st' := [vI a, vI x]) (σ' := σ) fl4_ok [(0, .iload_n 0), (1, .iload_n 1)] (by decide +kernel) rfl rfl ?_
  refine g_icmp_lt (off := 12) (tgt := 14) (by decide +kernel) (by decide) (fun zc2 => ?_) (fun zc2 => ?_)
  · refine g_blk (pc' := 15) (loc' := [some (vI x), some (vI a), some (vI b)]) (st' := [vI (0 : Int32)]) (σ' := σ) fl4_ok [(14, .iconst 0)] (by decide +kernel) rfl rfl ?_
    exact g_zret (by decide +kernel) (Or.inl rfl) (by rw [isInS, if_pos zc2]; exact ⟨rfl, rfl⟩)
  · refine g_blk (pc' := 7) (loc' := [some (vI x), some (vI a), some (vI b)]) (st' := [vI b, vI x]) (σ' := σ) fl4_ok [(5, .iload_n 0), (6, .iload_n 2)] (by decide +kernel) rfl rfl ?_
    refine g_icmp_gt (off := 7) (tgt := 14) (by decide +kernel) (by decide) (fun zc7 => ?_) (fun zc7 => ?_)
    · refine g_blk (pc' := 15) (loc' := [some (vI x), some (vI a), some (vI b)]) (st' := [vI (0 : Int32)]) (σ' := σ) fl4_ok [(14, .iconst 0)] (by decide +kernel) rfl rfl ?_
      exact g_zret (by decide +kernel) (Or.inl rfl) (by rw [isInS, if_neg zc2, if_pos zc7]; exact ⟨rfl, rfl⟩)
    · refine g_blk (pc' := 15) (loc' := [some (vI x), some (vI a), some (vI b)]) (st' := [vI (1 : Int32)]) (σ' := σ) fl4_ok [(10, .iconst 1), (11, .goto 4)] (by decide +kernel) rfl rfl ?_
      exact g_zret (by decide +kernel) (Or.inr rfl) (by rw [isInS, if_neg zc2, if_neg zc7]; exact ⟨rfl, rfl⟩)
set_option maxHeartbeats 2000000 in
theorem c_X4_bit (l : Launch) {σ : Sg}  (x : Int32) : Con l 0 yX4_bit cX4_bit 1 (some .int) [vI x] σ (pureP (bitS x) σ) := by
  refine con_of pn_X4_bit (Nat.le_of_ble_eq_true rfl) (fun hPK hok => ?_)
  show G l (Rm 0) RX4 cX4_bit 1 (some .int) _ 0 [some (vI x)] [] σ
  refine g_blk (pc' := 1) (loc' := [some (vI x)]) (st' := [vI x]) (σ' := σ) fl4_ok [(0, .iload_n 0)] (by decide +kernel) rfl rfl ?_
  refine g_if_eq (off := 7) (tgt := 8) (by decide +kernel) (by decide) (fun zc1 => ?_) (fun zc1 => ?_)
  · refine g_blk (pc' := 9) (loc' := [some (vI x)]) (st' := [vI (0 : Int32)]) (σ' := σ) fl4_ok [(8, .iconst 0)] (by decide +kernel) rfl rfl ?_
    exact g_iret (by decide +kernel) (by rw [bitS, if_pos zc1]; exact ⟨rfl, rfl⟩)
  · refine g_blk (pc' := 9) (loc' := [some (vI x)]) (st' := [vI (1 : Int32)]) (σ' := σ) fl4_ok [(4, .iconst 1), (5, .goto 4)] (by decide +kernel) rfl rfl ?_
    exact g_iret (by decide +kernel) (by rw [bitS, if_neg zc1]; exact ⟨rfl, rfl⟩)
set_option maxHeartbeats 2000000 in
theorem c_X1_isAway (l : Launch) {σ : Sg} {h : Nat} (hH : HOK σ h) (r : Int32) : Con l 1 yX1_isAway cX1_isAway 2 (some .boolean) [vR (2, 0, h), vI r] σ (pureP (awayS (habs σ h) r) σ) := by
  refine con_of pn_X1_isAway (Nat.le_of_ble_eq_true rfl) (fun hPK hok => ?_)
  show G l (Rm 1) RX1 cX1_isAway 2 (some .boolean) _ 0 [some (vR (2, 0, h)), some (vI r)] [] σ
  refine g_blk (pc' := 10) (loc' := [some (vR (2, 0, h)), some (vI r)]) (st' := [vI (1 : Int32), vI r, vR (0, 0, h), vI ((habs σ h).2 5)]) (σ' := σ) fl1_ok [(0, .aload_n 0), (1, .getfield 44), (4, .aload_n 0), (5, .getfield 16), (8, .iload_n 1), (9, .iconst 1)] (by decide +kernel) rfl rfl ?_
  refine g_callVp (0, 0, h) [vI r, vI (1 : Int32)] [vI ((habs σ h).2 5)] vl_RX1_58 mi_X3_cell (ct_cell l hH 0 (by decide) r (1 : Int32)) rfl rfl rfl rfl ⟨Nat.le_of_ble_eq_true rfl, Nat.le_of_ble_eq_true rfl⟩ rfl (Nat.le_of_ble_eq_true rfl) (by decide +kernel) ?_
  refine g_blk (pc' := 19) (loc' := [some (vR (2, 0, h)), some (vI r)]) (st' := [vI (2 : Int32), vI r, vR (0, 0, h), vI (cl (habs σ h) 0 r (1 : Int32)), vI ((habs σ h).2 5)]) (σ' := σ) fl1_ok [(13, .aload_n 0), (14, .getfield 16), (17, .iload_n 1), (18, .iconst 2)] (by decide +kernel) rfl rfl ?_
  refine g_callVp (0, 0, h) [vI r, vI (2 : Int32)] [vI (cl (habs σ h) 0 r (1 : Int32)), vI ((habs σ h).2 5)] vl_RX1_58 mi_X3_cell (ct_cell l hH 0 (by decide) r (2 : Int32)) rfl rfl rfl rfl ⟨Nat.le_of_ble_eq_true rfl, Nat.le_of_ble_eq_true rfl⟩ rfl (Nat.le_of_ble_eq_true rfl) (by decide +kernel) ?_
  refine g_callNp (idx := 62) [vI ((habs σ h).2 5), vI (cl (habs σ h) 0 r (1 : Int32)), vI (cl (habs σ h) 0 r (2 : Int32))] [] (by decide +kernel) nl_X4_isIn mi_X4_isIn (c_X4_isIn l ((habs σ h).2 5) (cl (habs σ h) 0 r (1 : Int32)) (cl (habs σ h) 0 r (2 : Int32))) rfl ⟨Nat.le_of_ble_eq_true rfl, Nat.le_of_ble_eq_true rfl⟩ rfl (Nat.le_of_ble_eq_true rfl) (by decide +kernel) ?_
  exact g_zret (by decide +kernel) (isInS_bit _ _ _) ⟨rfl, rfl⟩
set_option maxHeartbeats 2000000 in
theorem c_X1_loadOf (l : Launch) {σ : Sg} {h : Nat} (hH : HOK σ h) (r : Int32) : Con l 1 yX1_loadOf cX1_loadOf 2 (some .int) [vR (2, 0, h), vI r] σ (pureP (loadS (habs σ h) r) σ) := by
  refine con_of pn_X1_loadOf (Nat.le_of_ble_eq_true rfl) (fun hPK hok => ?_)
  show G l (Rm 1) RX1 cX1_loadOf 2 (some .int) _ 0 [some (vR (2, 0, h)), some (vI r)] [] σ
  refine g_blk (pc' := 6) (loc' := [some (vR (2, 0, h)), some (vI r)]) (st' := [vI (3 : Int32), vI r, vR (0, 0, h)]) (σ' := σ) fl1_ok [(0, .aload_n 0), (1, .getfield 16), (4, .iload_n 1), (5, .iconst 3)] (by decide +kernel) rfl rfl ?_
  refine g_callVp (0, 0, h) [vI r, vI (3 : Int32)] [] vl_RX1_58 mi_X3_cell (ct_cell l hH 0 (by decide) r (3 : Int32)) rfl rfl rfl rfl ⟨Nat.le_of_ble_eq_true rfl, Nat.le_of_ble_eq_true rfl⟩ rfl (Nat.le_of_ble_eq_true rfl) (by decide +kernel) ?_
  refine g_blk (pc' := 16) (loc' := [some (vR (2, 0, h)), some (vI r)]) (st' := [vI (6 : Int32), vI r, vR (0, 0, h), vI (cl (habs σ h) 0 r (3 : Int32))]) (σ' := σ) fl1_ok [(9, .aload_n 0), (10, .getfield 16), (13, .iload_n 1), (14, .bipush 6)] (by decide +kernel) rfl rfl ?_
  refine g_callVp (0, 0, h) [vI r, vI (6 : Int32)] [vI (cl (habs σ h) 0 r (3 : Int32))] vl_RX1_58 mi_X3_cell (ct_cell l hH 0 (by decide) r (6 : Int32)) rfl rfl rfl rfl ⟨Nat.le_of_ble_eq_true rfl, Nat.le_of_ble_eq_true rfl⟩ rfl (Nat.le_of_ble_eq_true rfl) (by decide +kernel) ?_
  refine g_blk (pc' := 20) (loc' := [some (vR (2, 0, h)), some (vI r)]) (st' := [vI ((cl (habs σ h) 0 r (3 : Int32)) + (cl (habs σ h) 0 r (6 : Int32)))]) (σ' := σ) fl1_ok [(19, .iadd)] (by decide +kernel) rfl rfl ?_
  exact g_iret (by decide +kernel) (by exact ⟨rfl, rfl⟩)
set_option maxHeartbeats 2000000 in
theorem c_X1_needsDeepClean (l : Launch) {σ : Sg} {h : Nat} (hH : HOK σ h) (a : Int32) : Con l 1 yX1_needsDeepClean cX1_needsDeepClean 2 (some .boolean) [vR (2, 0, h), vI a] σ (pureP (deepS (habs σ h) a) σ) := by
  refine con_of pn_X1_needsDeepClean (Nat.le_of_ble_eq_true rfl) (fun hPK hok => ?_)
  show G l (Rm 1) RX1 cX1_needsDeepClean 2 (some .boolean) _ 0 [some (vR (2, 0, h)), some (vI a)] [] σ
  refine g_blk (pc' := 6) (loc' := [some (vR (2, 0, h)), some (vI a)]) (st' := [vI (3 : Int32), vI a, vR (0, 1, h)]) (σ' := σ) fl1_ok [(0, .aload_n 0), (1, .getfield 20), (4, .iload_n 1), (5, .iconst 3)] (by decide +kernel) rfl rfl ?_
  refine g_callVp (0, 1, h) [vI a, vI (3 : Int32)] [] vl_RX1_58 mi_X3_cell (ct_cell l hH 1 (by decide) a (3 : Int32)) rfl rfl rfl rfl ⟨Nat.le_of_ble_eq_true rfl, Nat.le_of_ble_eq_true rfl⟩ rfl (Nat.le_of_ble_eq_true rfl) (by decide +kernel) ?_
  refine g_blk (pc' := 15) (loc' := [some (vR (2, 0, h)), some (vI a)]) (st' := [vI (3 : Int32), vI (0 : Int32), vR (0, 4, h), vI (cl (habs σ h) 1 a (3 : Int32))]) (σ' := σ) fl1_ok [(9, .aload_n 0), (10, .getfield 29), (13, .iconst 0), (14, .iconst 3)] (by decide +kernel) rfl rfl ?_
  refine g_callVp (0, 4, h) [vI (0 : Int32), vI (3 : Int32)] [vI (cl (habs σ h) 1 a (3 : Int32))] vl_RX1_58 mi_X3_cell (ct_cell l hH 4 (by decide) (0 : Int32) (3 : Int32)) rfl rfl rfl rfl ⟨Nat.le_of_ble_eq_true rfl, Nat.le_of_ble_eq_true rfl⟩ rfl (Nat.le_of_ble_eq_true rfl) (by decide +kernel) ?_
  refine g_icmp_lt (off := 7) (tgt := 25) (by decide +kernel) (by decide) (fun zc18 => ?_) (fun zc18 => ?_)
  · refine g_blk (pc' := 26) (loc' := [some (vR (2, 0, h)), some (vI a)]) (st' := [vI (0 : Int32)]) (σ' := σ) fl1_ok [(25, .iconst 0)] (by decide +kernel) rfl rfl ?_
    exact g_zret (by decide +kernel) (Or.inl rfl) (by rw [deepS, if_pos zc18]; exact ⟨rfl, rfl⟩)
  · refine g_blk (pc' := 26) (loc' := [some (vR (2, 0, h)), some (vI a)]) (st' := [vI (1 : Int32)]) (σ' := σ) fl1_ok [(21, .iconst 1), (22, .goto 4)] (by decide +kernel) rfl rfl ?_
    exact g_zret (by decide +kernel) (Or.inr rfl) (by rw [deepS, if_neg zc18]; exact ⟨rfl, rfl⟩)
set_option maxHeartbeats 2000000 in
theorem c_X1_isDue (l : Launch) {σ : Sg} {h : Nat} (hH : HOK σ h) (a : Int32) : Con l 1 yX1_isDue cX1_isDue 3 (some .boolean) [vR (2, 0, h), vI a] σ (pureP (dueS (habs σ h) a) σ) := by
  refine con_of pn_X1_isDue (Nat.le_of_ble_eq_true rfl) (fun hPK hok => ?_)
  show G l (Rm 1) RX1 cX1_isDue 3 (some .boolean) _ 0 [some (vR (2, 0, h)), some (vI a), none] [] σ
  refine g_blk (pc' := 6) (loc' := [some (vR (2, 0, h)), some (vI a), none]) (st' := [vI (1 : Int32), vI a, vR (0, 1, h)]) (σ' := σ) fl1_ok [(0, .aload_n 0), (1, .getfield 20), (4, .iload_n 1), (5, .iconst 1)] (by decide +kernel) rfl rfl ?_
  refine g_callVp (0, 1, h) [vI a, vI (1 : Int32)] [] vl_RX1_58 mi_X3_cell (ct_cell l hH 1 (by decide) a (1 : Int32)) rfl rfl rfl rfl ⟨Nat.le_of_ble_eq_true rfl, Nat.le_of_ble_eq_true rfl⟩ rfl (Nat.le_of_ble_eq_true rfl) (by decide +kernel) ?_
  refine g_blk (pc' := 11) (loc' := [some (vR (2, 0, h)), some (vI a), some (vI (cl (habs σ h) 1 a (1 : Int32)))]) (st' := [vI (cl (habs σ h) 1 a (1 : Int32))]) (σ' := σ) fl1_ok [(9, .istore_n 2), (10, .iload_n 2)] (by decide +kernel) rfl rfl ?_
  refine g_if_le (off := 19) (tgt := 30) (by decide +kernel) (by decide) (fun zc11 => ?_) (fun zc11 => ?_)
  · refine g_blk (pc' := 31) (loc' := [some (vR (2, 0, h)), some (vI a), some (vI (cl (habs σ h) 1 a (1 : Int32)))]) (st' := [vI (0 : Int32)]) (σ' := σ) fl1_ok [(30, .iconst 0)] (by decide +kernel) rfl rfl ?_
    exact g_zret (by decide +kernel) (Or.inl rfl) (by rw [dueS, if_pos zc11]; exact ⟨rfl, rfl⟩)
  · refine g_blk (pc' := 19) (loc' := [some (vR (2, 0, h)), some (vI a), some (vI (cl (habs σ h) 1 a (1 : Int32)))]) (st' := [vI (cl (habs σ h) 1 a (1 : Int32)), vI ((habs σ h).2 5)]) (σ' := σ) fl1_ok [(14, .aload_n 0), (15, .getfield 44), (18, .iload_n 2)] (by decide +kernel) rfl rfl ?_
    refine g_remS (hy := fun z => zc11 (by rw [z]; decide)) (hd := by decide +kernel) (k := ?_)
    refine g_blk (pc' := 22) (loc' := [some (vR (2, 0, h)), some (vI a), some (vI (cl (habs σ h) 1 a (1 : Int32)))]) (st' := [vI (cl (habs σ h) 1 a (1 : Int32)), vI a, vI (remS ((habs σ h).2 5) (cl (habs σ h) 1 a (1 : Int32)))]) (σ' := σ) fl1_ok [(20, .iload_n 1), (21, .iload_n 2)] (by decide +kernel) rfl rfl ?_
    refine g_remS (hy := fun z => zc11 (by rw [z]; decide)) (hd := by decide +kernel) (k := ?_)
    refine g_icmp_ne (off := 7) (tgt := 30) (by decide +kernel) (by decide) (fun zc23 => ?_) (fun zc23 => ?_)
    · refine g_blk (pc' := 31) (loc' := [some (vR (2, 0, h)), some (vI a), some (vI (cl (habs σ h) 1 a (1 : Int32)))]) (st' := [vI (0 : Int32)]) (σ' := σ) fl1_ok [(30, .iconst 0)] (by decide +kernel) rfl rfl ?_
      exact g_zret (by decide +kernel) (Or.inl rfl) (by rw [dueS, if_neg zc11, if_pos zc23]; exact ⟨rfl, rfl⟩)
    · refine g_blk (pc' := 31) (loc' := [some (vR (2, 0, h)), some (vI a), some (vI (cl (habs σ h) 1 a (1 : Int32)))]) (st' := [vI (1 : Int32)]) (σ' := σ) fl1_ok [(26, .iconst 1), (27, .goto 4)] (by decide +kernel) rfl rfl ?_
      exact g_zret (by decide +kernel) (Or.inr rfl) (by rw [dueS, if_neg zc11, if_neg (not_not_intro zc23)]; exact ⟨rfl, rfl⟩)
set_option maxHeartbeats 2000000 in
theorem c_X1_hasTwinAhead (l : Launch) {σ : Sg} {h : Nat} (hH : HOK σ h) (t : Int32) : Con l 1 yX1_hasTwinAhead cX1_hasTwinAhead 2 (some .boolean) [vR (2, 0, h), vI t] σ (pureP (twinS (habs σ h) t) σ) := by
  refine con_of pn_X1_hasTwinAhead (Nat.le_of_ble_eq_true rfl) (fun hPK hok => ?_)
  show G l (Rm 1) RX1 cX1_hasTwinAhead 2 (some .boolean) _ 0 [some (vR (2, 0, h)), some (vI t)] [] σ
  refine g_blk (pc' := 1) (loc' := [some (vR (2, 0, h)), some (vI t)]) (st' := [vI t]) (σ' := σ) fl1_ok [(0, .iload_n 1)] (by decide +kernel) rfl rfl ?_
  refine g_if_le (off := 30) (tgt := 31) (by decide +kernel) (by decide) (fun zc1 => ?_) (fun zc1 => ?_)
  · refine g_blk (pc' := 32) (loc' := [some (vR (2, 0, h)), some (vI t)]) (st' := [vI (0 : Int32)]) (σ' := σ) fl1_ok [(31, .iconst 0)] (by decide +kernel) rfl rfl ?_
    exact g_zret (by decide +kernel) (Or.inl rfl) (by rw [twinS, if_pos zc1]; exact ⟨rfl, rfl⟩)
  · refine g_blk (pc' := 12) (loc' := [some (vR (2, 0, h)), some (vI t)]) (st' := [vI (0 : Int32), vI (t - (1 : Int32)), vR (0, 2, h)]) (σ' := σ) fl1_ok [(4, .aload_n 0), (5, .getfield 23), (8, .iload_n 1), (9, .iconst 1), (10, .isub), (11, .iconst 0)] (by decide +kernel) rfl rfl ?_
    refine g_callVp (0, 2, h) [vI (t - (1 : Int32)), vI (0 : Int32)] [] vl_RX1_58 mi_X3_cell (ct_cell l hH 2 (by decide) (t - (1 : Int32)) (0 : Int32)) rfl rfl rfl rfl ⟨Nat.le_of_ble_eq_true rfl, Nat.le_of_ble_eq_true rfl⟩ rfl (Nat.le_of_ble_eq_true rfl) (by decide +kernel) ?_
    refine g_blk (pc' := 21) (loc' := [some (vR (2, 0, h)), some (vI t)]) (st' := [vI (0 : Int32), vI t, vR (0, 2, h), vI (cl (habs σ h) 2 (t - (1 : Int32)) (0 : Int32))]) (σ' := σ) fl1_ok [(15, .aload_n 0), (16, .getfield 23), (19, .iload_n 1), (20, .iconst 0)] (by decide +kernel) rfl rfl ?_
    refine g_callVp (0, 2, h) [vI t, vI (0 : Int32)] [vI (cl (habs σ h) 2 (t - (1 : Int32)) (0 : Int32))] vl_RX1_58 mi_X3_cell (ct_cell l hH 2 (by decide) t (0 : Int32)) rfl rfl rfl rfl ⟨Nat.le_of_ble_eq_true rfl, Nat.le_of_ble_eq_true rfl⟩ rfl (Nat.le_of_ble_eq_true rfl) (by decide +kernel) ?_
    refine g_icmp_ne (off := 7) (tgt := 31) (by decide +kernel) (by decide) (fun zc24 => ?_) (fun zc24 => ?_)
    · refine g_blk (pc' := 32) (loc' := [some (vR (2, 0, h)), some (vI t)]) (st' := [vI (0 : Int32)]) (σ' := σ) fl1_ok [(31, .iconst 0)] (by decide +kernel) rfl rfl ?_
      exact g_zret (by decide +kernel) (Or.inl rfl) (by rw [twinS, if_neg zc1, if_pos zc24]; exact ⟨rfl, rfl⟩)
    · refine g_blk (pc' := 32) (loc' := [some (vR (2, 0, h)), some (vI t)]) (st' := [vI (1 : Int32)]) (σ' := σ) fl1_ok [(27, .iconst 1), (28, .goto 4)] (by decide +kernel) rfl rfl ?_
      exact g_zret (by decide +kernel) (Or.inr rfl) (by rw [twinS, if_neg zc1, if_neg (not_not_intro zc24)]; exact ⟨rfl, rfl⟩)
set_option maxHeartbeats 2000000 in
theorem c_X1_goesAhead (l : Launch) {σ : Sg} {h : Nat} (hH : HOK σ h) (r o : Int32) : Con l 2 yX1_goesAhead cX1_goesAhead 5 (some .boolean) [vR (2, 0, h), vI r, vI o] σ (pureP (aheadS (habs σ h) r o) σ) := by
  refine con_of pn_X1_goesAhead (Nat.le_of_ble_eq_true rfl) (fun hPK hok => ?_)
  show G l (Rm 2) RX1 cX1_goesAhead 5 (some .boolean) _ 0 [some (vR (2, 0, h)), some (vI r), some (vI o), none, none] [] σ
  refine g_blk (pc' := 2) (loc' := [some (vR (2, 0, h)), some (vI r), some (vI o), none, none]) (st' := [vI r, vR (2, 0, h)]) (σ' := σ) fl1_ok [(0, .aload_n 0), (1, .iload_n 1)] (by decide +kernel) rfl rfl ?_
  refine g_callVp (2, 0, h) [vI r] [] vl_RX1_118 mi_X1_loadOf (c_X1_loadOf l hH r) rfl rfl rfl rfl ⟨Nat.le_of_ble_eq_true rfl, Nat.le_of_ble_eq_true rfl⟩ rfl (Nat.le_of_ble_eq_true rfl) (by decide +kernel) ?_
  refine g_blk (pc' := 11) (loc' := [some (vR (2, 0, h)), some (vI r), some (vI o), none, none]) (st' := [vI (0 : Int32), vI o, vR (0, 0, h), vI (loadS (habs σ h) r)]) (σ' := σ) fl1_ok [(5, .aload_n 0), (6, .getfield 16), (9, .iload_n 2), (10, .iconst 0)] (by decide +kernel) rfl rfl ?_
  refine g_callVp (0, 0, h) [vI o, vI (0 : Int32)] [vI (loadS (habs σ h) r)] vl_RX1_58 mi_X3_cell (ct_cell l hH 0 (by decide) o (0 : Int32)) rfl rfl rfl rfl ⟨Nat.le_of_ble_eq_true rfl, Nat.le_of_ble_eq_true rfl⟩ rfl (Nat.le_of_ble_eq_true rfl) (by decide +kernel) ?_
  refine g_blk (pc' := 18) (loc' := [some (vR (2, 0, h)), some (vI r), some (vI o), some (vI ((loadS (habs σ h) r) * (cl (habs σ h) 0 o (0 : Int32)))), none]) (st' := [vI o, vR (2, 0, h)]) (σ' := σ) fl1_ok [(14, .imul), (15, .istore_n 3), (16, .aload_n 0), (17, .iload_n 2)] (by decide +kernel) rfl rfl ?_
  refine g_callVp (2, 0, h) [vI o] [] vl_RX1_118 mi_X1_loadOf (c_X1_loadOf l hH o) rfl rfl rfl rfl ⟨Nat.le_of_ble_eq_true rfl, Nat.le_of_ble_eq_true rfl⟩ rfl (Nat.le_of_ble_eq_true rfl) (by decide +kernel) ?_
  refine g_blk (pc' := 27) (loc' := [some (vR (2, 0, h)), some (vI r), some (vI o), some (vI ((loadS (habs σ h) r) * (cl (habs σ h) 0 o (0 : Int32)))), none]) (st' := [vI (0 : Int32), vI r, vR (0, 0, h), vI (loadS (habs σ h) o)]) (σ' := σ) fl1_ok [(21, .aload_n 0), (22, .getfield 16), (25, .iload_n 1), (26, .iconst 0)] (by decide +kernel) rfl rfl ?_
  refine g_callVp (0, 0, h) [vI r, vI (0 : Int32)] [vI (loadS (habs σ h) o)] vl_RX1_58 mi_X3_cell (ct_cell l hH 0 (by decide) r (0 : Int32)) rfl rfl rfl rfl ⟨Nat.le_of_ble_eq_true rfl, Nat.le_of_ble_eq_true rfl⟩ rfl (Nat.le_of_ble_eq_true rfl) (by decide +kernel) ?_
  refine g_blk (pc' := 36) (loc' := [some (vR (2, 0, h)), some (vI r), some (vI o), some (vI ((loadS (habs σ h) r) * (cl (habs σ h) 0 o (0 : Int32)))), some (vI ((loadS (habs σ h) o) * (cl (habs σ h) 0 r (0 : Int32))))]) (st' := [vI ((loadS (habs σ h) o) * (cl (habs σ h) 0 r (0 : Int32))), vI ((loadS (habs σ h) r) * (cl (habs σ h) 0 o (0 : Int32)))]) (σ' := σ) fl1_ok [(30, .imul), (31, .istore 4), (33, .iload_n 3), (34, .iload 4)] (by decide +kernel) rfl rfl ?_
  refine g_icmp_eq (off := 15) (tgt := 51) (by decide +kernel) (by decide) (fun zc36 => ?_) (fun zc36 => ?_)
  · refine g_blk (pc' := 57) (loc' := [some (vR (2, 0, h)), some (vI r), some (vI o), some (vI ((loadS (habs σ h) r) * (cl (habs σ h) 0 o (0 : Int32)))), some (vI ((loadS (habs σ h) o) * (cl (habs σ h) 0 r (0 : Int32))))]) (st' := [vI (4 : Int32), vI r, vR (0, 0, h)]) (σ' := σ) fl1_ok [(51, .aload_n 0), (52, .getfield 16), (55, .iload_n 1), (56, .iconst 4)] (by decide +kernel) rfl rfl ?_
    refine g_callVp (0, 0, h) [vI r, vI (4 : Int32)] [] vl_RX1_58 mi_X3_cell (ct_cell l hH 0 (by decide) r (4 : Int32)) rfl rfl rfl rfl ⟨Nat.le_of_ble_eq_true rfl, Nat.le_of_ble_eq_true rfl⟩ rfl (Nat.le_of_ble_eq_true rfl) (by decide +kernel) ?_
    refine g_blk (pc' := 66) (loc' := [some (vR (2, 0, h)), some (vI r), some (vI o), some (vI ((loadS (habs σ h) r) * (cl (habs σ h) 0 o (0 : Int32)))), some (vI ((loadS (habs σ h) o) * (cl (habs σ h) 0 r (0 : Int32))))]) (st' := [vI (4 : Int32), vI o, vR (0, 0, h), vI (cl (habs σ h) 0 r (4 : Int32))]) (σ' := σ) fl1_ok [(60, .aload_n 0), (61, .getfield 16), (64, .iload_n 2), (65, .iconst 4)] (by decide +kernel) rfl rfl ?_
    refine g_callVp (0, 0, h) [vI o, vI (4 : Int32)] [vI (cl (habs σ h) 0 r (4 : Int32))] vl_RX1_58 mi_X3_cell (ct_cell l hH 0 (by decide) o (4 : Int32)) rfl rfl rfl rfl ⟨Nat.le_of_ble_eq_true rfl, Nat.le_of_ble_eq_true rfl⟩ rfl (Nat.le_of_ble_eq_true rfl) (by decide +kernel) ?_
    refine g_icmp_le (off := 7) (tgt := 76) (by decide +kernel) (by decide) (fun zc69 => ?_) (fun zc69 => ?_)
    · refine g_blk (pc' := 77) (loc' := [some (vR (2, 0, h)), some (vI r), some (vI o), some (vI ((loadS (habs σ h) r) * (cl (habs σ h) 0 o (0 : Int32)))), some (vI ((loadS (habs σ h) o) * (cl (habs σ h) 0 r (0 : Int32))))]) (st' := [vI (0 : Int32)]) (σ' := σ) fl1_ok [(76, .iconst 0)] (by decide +kernel) rfl rfl ?_
      exact g_zret (by decide +kernel) (Or.inl rfl) (by rw [aheadS, if_pos zc36, if_pos zc69]; exact ⟨rfl, rfl⟩)
    · refine g_blk (pc' := 77) (loc' := [some (vR (2, 0, h)), some (vI r), some (vI o), some (vI ((loadS (habs σ h) r) * (cl (habs σ h) 0 o (0 : Int32)))), some (vI ((loadS (habs σ h) o) * (cl (habs σ h) 0 r (0 : Int32))))]) (st' := [vI (1 : Int32)]) (σ' := σ) fl1_ok [(72, .iconst 1), (73, .goto 4)] (by decide +kernel) rfl rfl ?_
      exact g_zret (by decide +kernel) (Or.inr rfl) (by rw [aheadS, if_pos zc36, if_neg zc69]; exact ⟨rfl, rfl⟩)
  · refine g_blk (pc' := 42) (loc' := [some (vR (2, 0, h)), some (vI r), some (vI o), some (vI ((loadS (habs σ h) r) * (cl (habs σ h) 0 o (0 : Int32)))), some (vI ((loadS (habs σ h) o) * (cl (habs σ h) 0 r (0 : Int32))))]) (st' := [vI ((loadS (habs σ h) o) * (cl (habs σ h) 0 r (0 : Int32))), vI ((loadS (habs σ h) r) * (cl (habs σ h) 0 o (0 : Int32)))]) (σ' := σ) fl1_ok [(39, .iload_n 3), (40, .iload 4)] (by decide +kernel) rfl rfl ?_
    refine g_icmp_ge (off := 7) (tgt := 49) (by decide +kernel) (by decide) (fun zc42 => ?_) (fun zc42 => ?_)
    · refine g_blk (pc' := 50) (loc' := [some (vR (2, 0, h)), some (vI r), some (vI o), some (vI ((loadS (habs σ h) r) * (cl (habs σ h) 0 o (0 : Int32)))), some (vI ((loadS (habs σ h) o) * (cl (habs σ h) 0 r (0 : Int32))))]) (st' := [vI (0 : Int32)]) (σ' := σ) fl1_ok [(49, .iconst 0)] (by decide +kernel) rfl rfl ?_
      exact g_zret (by decide +kernel) (Or.inl rfl) (by rw [aheadS, if_neg zc36, if_pos zc42]; exact ⟨rfl, rfl⟩)
    · refine g_blk (pc' := 50) (loc' := [some (vR (2, 0, h)), some (vI r), some (vI o), some (vI ((loadS (habs σ h) r) * (cl (habs σ h) 0 o (0 : Int32)))), some (vI ((loadS (habs σ h) o) * (cl (habs σ h) 0 r (0 : Int32))))]) (st' := [vI (1 : Int32)]) (σ' := σ) fl1_ok [(45, .iconst 1), (46, .goto 4)] (by decide +kernel) rfl rfl ?_
      exact g_zret (by decide +kernel) (Or.inr rfl) (by rw [aheadS, if_neg zc36, if_neg zc42]; exact ⟨rfl, rfl⟩)
set_option maxHeartbeats 2000000 in
theorem c_X1_isOpen (l : Launch) {σ : Sg} {h : Nat} (hH : HOK σ h) (t : Int32) : Con l 1 yX1_isOpen cX1_isOpen 2 (some .boolean) [vR (2, 0, h), vI t] σ (pureP (openS (habs σ h) t) σ) := by
  refine con_of pn_X1_isOpen (Nat.le_of_ble_eq_true rfl) (fun hPK hok => ?_)
  show G l (Rm 1) RX1 cX1_isOpen 2 (some .boolean) _ 0 [some (vR (2, 0, h)), some (vI t)] [] σ
  refine g_blk (pc' := 5) (loc' := [some (vR (2, 0, h)), some (vI t)]) (st' := [vI t, vR (0, 2, h)]) (σ' := σ) fl1_ok [(0, .aload_n 0), (1, .getfield 23), (4, .iload_n 1)] (by decide +kernel) rfl rfl ?_
  refine g_callVp (0, 2, h) [vI t] [] vl_RX1_121 mi_X3_has (ct_has l hH 2 (by decide) t) rfl rfl rfl rfl ⟨Nat.le_of_ble_eq_true rfl, Nat.le_of_ble_eq_true rfl⟩ rfl (Nat.le_of_ble_eq_true rfl) (by decide +kernel) ?_
  refine g_if_eq (off := 19) (tgt := 27) (by decide +kernel) (by decide) (fun zc8 => ?_) (fun zc8 => ?_)
  · refine g_blk (pc' := 28) (loc' := [some (vR (2, 0, h)), some (vI t)]) (st' := [vI (0 : Int32)]) (σ' := σ) fl1_ok [(27, .iconst 0)] (by decide +kernel) rfl rfl ?_
    exact g_zret (by decide +kernel) (Or.inl rfl) (by rw [openS, if_pos zc8]; exact ⟨rfl, rfl⟩)
  · refine g_blk (pc' := 17) (loc' := [some (vR (2, 0, h)), some (vI t)]) (st' := [vI (3 : Int32), vI t, vR (0, 2, h)]) (σ' := σ) fl1_ok [(11, .aload_n 0), (12, .getfield 23), (15, .iload_n 1), (16, .iconst 3)] (by decide +kernel) rfl rfl ?_
    refine g_callVp (0, 2, h) [vI t, vI (3 : Int32)] [] vl_RX1_58 mi_X3_cell (ct_cell l hH 2 (by decide) t (3 : Int32)) rfl rfl rfl rfl ⟨Nat.le_of_ble_eq_true rfl, Nat.le_of_ble_eq_true rfl⟩ rfl (Nat.le_of_ble_eq_true rfl) (by decide +kernel) ?_
    refine g_if_ne (off := 7) (tgt := 27) (by decide +kernel) (by decide) (fun zc20 => ?_) (fun zc20 => ?_)
    · refine g_blk (pc' := 28) (loc' := [some (vR (2, 0, h)), some (vI t)]) (st' := [vI (0 : Int32)]) (σ' := σ) fl1_ok [(27, .iconst 0)] (by decide +kernel) rfl rfl ?_
      exact g_zret (by decide +kernel) (Or.inl rfl) (by rw [openS, if_neg zc8, if_pos zc20]; exact ⟨rfl, rfl⟩)
    · refine g_blk (pc' := 28) (loc' := [some (vR (2, 0, h)), some (vI t)]) (st' := [vI (1 : Int32)]) (σ' := σ) fl1_ok [(23, .iconst 1), (24, .goto 4)] (by decide +kernel) rfl rfl ?_
      exact g_zret (by decide +kernel) (Or.inr rfl) (by rw [openS, if_neg zc8, if_neg (not_not_intro zc20)]; exact ⟨rfl, rfl⟩)
set_option maxHeartbeats 2000000 in
theorem c_X1_isOpenTaskOf (l : Launch) {σ : Sg} {h : Nat} (hH : HOK σ h) (t r : Int32) : Con l 2 yX1_isOpenTaskOf cX1_isOpenTaskOf 3 (some .boolean) [vR (2, 0, h), vI t, vI r] σ (pureP (openOfS (habs σ h) t r) σ) := by
  refine con_of pn_X1_isOpenTaskOf (Nat.le_of_ble_eq_true rfl) (fun hPK hok => ?_)
  show G l (Rm 2) RX1 cX1_isOpenTaskOf 3 (some .boolean) _ 0 [some (vR (2, 0, h)), some (vI t), some (vI r)] [] σ
  refine g_blk (pc' := 2) (loc' := [some (vR (2, 0, h)), some (vI t), some (vI r)]) (st' := [vI t, vR (2, 0, h)]) (σ' := σ) fl1_ok [(0, .aload_n 0), (1, .iload_n 1)] (by decide +kernel) rfl rfl ?_
  refine g_callVp (2, 0, h) [vI t] [] vl_RX1_124 mi_X1_isOpen (c_X1_isOpen l hH t) rfl rfl rfl rfl ⟨Nat.le_of_ble_eq_true rfl, Nat.le_of_ble_eq_true rfl⟩ rfl (Nat.le_of_ble_eq_true rfl) (by decide +kernel) ?_
  refine g_if_eq (off := 20) (tgt := 25) (by decide +kernel) (by decide) (fun zc5 => ?_) (fun zc5 => ?_)
  · refine g_blk (pc' := 26) (loc' := [some (vR (2, 0, h)), some (vI t), some (vI r)]) (st' := [vI (0 : Int32)]) (σ' := σ) fl1_ok [(25, .iconst 0)] (by decide +kernel) rfl rfl ?_
    exact g_zret (by decide +kernel) (Or.inl rfl) (by rw [openOfS, if_pos zc5]; exact ⟨rfl, rfl⟩)
  · refine g_blk (pc' := 14) (loc' := [some (vR (2, 0, h)), some (vI t), some (vI r)]) (st' := [vI (1 : Int32), vI t, vR (0, 2, h)]) (σ' := σ) fl1_ok [(8, .aload_n 0), (9, .getfield 23), (12, .iload_n 1), (13, .iconst 1)] (by decide +kernel) rfl rfl ?_
    refine g_callVp (0, 2, h) [vI t, vI (1 : Int32)] [] vl_RX1_58 mi_X3_cell (ct_cell l hH 2 (by decide) t (1 : Int32)) rfl rfl rfl rfl ⟨Nat.le_of_ble_eq_true rfl, Nat.le_of_ble_eq_true rfl⟩ rfl (Nat.le_of_ble_eq_true rfl) (by decide +kernel) ?_
    refine g_blk (pc' := 18) (loc' := [some (vR (2, 0, h)), some (vI t), some (vI r)]) (st' := [vI r, vI (cl (habs σ h) 2 t (1 : Int32))]) (σ' := σ) fl1_ok [(17, .iload_n 2)] (by decide +kernel) rfl rfl ?_
    refine g_icmp_ne (off := 7) (tgt := 25) (by decide +kernel) (by decide) (fun zc18 => ?_) (fun zc18 => ?_)
    · refine g_blk (pc' := 26) (loc' := [some (vR (2, 0, h)), some (vI t), some (vI r)]) (st' := [vI (0 : Int32)]) (σ' := σ) fl1_ok [(25, .iconst 0)] (by decide +kernel) rfl rfl ?_
      exact g_zret (by decide +kernel) (Or.inl rfl) (by rw [openOfS, if_neg zc5, if_pos zc18]; exact ⟨rfl, rfl⟩)
    · refine g_blk (pc' := 26) (loc' := [some (vR (2, 0, h)), some (vI t), some (vI r)]) (st' := [vI (1 : Int32)]) (σ' := σ) fl1_ok [(21, .iconst 1), (22, .goto 4)] (by decide +kernel) rfl rfl ?_
      exact g_zret (by decide +kernel) (Or.inr rfl) (by rw [openOfS, if_neg zc5, if_neg (not_not_intro zc18)]; exact ⟨rfl, rfl⟩)
set_option maxHeartbeats 2000000 in
theorem c_X1_effortOfTask (l : Launch) {σ : Sg} {h : Nat} (hH : HOK σ h) (a : Int32) : Con l 2 yX1_effortOfTask cX1_effortOfTask 3 (some .int) [vR (2, 0, h), vI a] σ (pureP (effS (habs σ h) a) σ) := by
  refine con_of pn_X1_effortOfTask (Nat.le_of_ble_eq_true rfl) (fun hPK hok => ?_)
  show G l (Rm 2) RX1 cX1_effortOfTask 3 (some .int) _ 0 [some (vR (2, 0, h)), some (vI a), none] [] σ
  refine g_blk (pc' := 6) (loc' := [some (vR (2, 0, h)), some (vI a), none]) (st' := [vI (0 : Int32), vI a, vR (0, 1, h)]) (σ' := σ) fl1_ok [(0, .aload_n 0), (1, .getfield 20), (4, .iload_n 1), (5, .iconst 0)] (by decide +kernel) rfl rfl ?_
  refine g_callVp (0, 1, h) [vI a, vI (0 : Int32)] [] vl_RX1_58 mi_X3_cell (ct_cell l hH 1 (by decide) a (0 : Int32)) rfl rfl rfl rfl ⟨Nat.le_of_ble_eq_true rfl, Nat.le_of_ble_eq_true rfl⟩ rfl (Nat.le_of_ble_eq_true rfl) (by decide +kernel) ?_
  refine g_blk (pc' := 12) (loc' := [some (vR (2, 0, h)), some (vI a), some (vI (cl (habs σ h) 1 a (0 : Int32)))]) (st' := [vI a, vR (2, 0, h)]) (σ' := σ) fl1_ok [(9, .istore_n 2), (10, .aload_n 0), (11, .iload_n 1)] (by decide +kernel) rfl rfl ?_
  refine g_callVp (2, 0, h) [vI a] [] vl_RX1_93 mi_X1_needsDeepClean (c_X1_needsDeepClean l hH a) rfl rfl rfl rfl ⟨Nat.le_of_ble_eq_true rfl, Nat.le_of_ble_eq_true rfl⟩ rfl (Nat.le_of_ble_eq_true rfl) (by decide +kernel) ?_
  refine g_if_eq (off := 19) (tgt := 34) (by decide +kernel) (by decide) (fun zc15 => ?_) (fun zc15 => ?_)
  · refine g_blk (pc' := 36) (loc' := [some (vR (2, 0, h)), some (vI a), some (vI (cl (habs σ h) 1 a (0 : Int32)))]) (st' := [vI a, vR (2, 0, h)]) (σ' := σ) fl1_ok [(34, .aload_n 0), (35, .iload_n 1)] (by decide +kernel) rfl rfl ?_
    refine g_callVp (2, 0, h) [vI a] [] vl_RX1_101 mi_X1_isDue (c_X1_isDue l hH a) rfl rfl rfl rfl ⟨Nat.le_of_ble_eq_true rfl, Nat.le_of_ble_eq_true rfl⟩ rfl (Nat.le_of_ble_eq_true rfl) (by decide +kernel) ?_
    refine g_if_eq (off := 7) (tgt := 46) (by decide +kernel) (by decide) (fun zc39 => ?_) (fun zc39 => ?_)
    · refine g_blk (pc' := 47) (loc' := [some (vR (2, 0, h)), some (vI a), some (vI (cl (habs σ h) 1 a (0 : Int32)))]) (st' := [vI (0 : Int32)]) (σ' := σ) fl1_ok [(46, .iconst 0)] (by decide +kernel) rfl rfl ?_
      exact g_iret (by decide +kernel) (by rw [effS, if_pos zc15, if_pos zc39]; exact ⟨rfl, rfl⟩)
    · refine g_blk (pc' := 47) (loc' := [some (vR (2, 0, h)), some (vI a), some (vI (cl (habs σ h) 1 a (0 : Int32)))]) (st' := [vI (cl (habs σ h) 1 a (0 : Int32))]) (σ' := σ) fl1_ok [(42, .iload_n 2), (43, .goto 4)] (by decide +kernel) rfl rfl ?_
      exact g_iret (by decide +kernel) (by rw [effS, if_pos zc15, if_neg zc39]; exact ⟨rfl, rfl⟩)
  · refine g_blk (pc' := 24) (loc' := [some (vR (2, 0, h)), some (vI a), some (vI (cl (habs σ h) 1 a (0 : Int32)))]) (st' := [vI (2 : Int32), vI (0 : Int32), vR (0, 4, h)]) (σ' := σ) fl1_ok [(18, .aload_n 0), (19, .getfield 29), (22, .iconst 0), (23, .iconst 2)] (by decide +kernel) rfl rfl ?_
    refine g_callVp (0, 4, h) [vI (0 : Int32), vI (2 : Int32)] [] vl_RX1_58 mi_X3_cell (ct_cell l hH 4 (by decide) (0 : Int32) (2 : Int32)) rfl rfl rfl rfl ⟨Nat.le_of_ble_eq_true rfl, Nat.le_of_ble_eq_true rfl⟩ rfl (Nat.le_of_ble_eq_true rfl) (by decide +kernel) ?_
    refine g_blk (pc' := 32) (loc' := [some (vR (2, 0, h)), some (vI a), some (vI (cl (habs σ h) 1 a (0 : Int32)))]) (st' := [vI (2 : Int32), vI (((cl (habs σ h) 4 (0 : Int32) (2 : Int32)) * (cl (habs σ h) 1 a (0 : Int32))) + (1 : Int32))]) (σ' := σ) fl1_ok [(27, .iload_n 2), (28, .imul), (29, .iconst 1), (30, .iadd), (31, .iconst 2)] (by decide +kernel) rfl rfl ?_
    refine g_idiv (hy := by decide) (hd := by decide +kernel) (k := ?_)
    exact g_iret (by decide +kernel) (by rw [effS, if_neg zc15]; exact ⟨rfl, rfl⟩)
set_option maxHeartbeats 2000000 in
theorem c_X1_canExchange (l : Launch) {σ : Sg} {h : Nat} (hH : HOK σ h) (a b : Int32) : Con l 2 yX1_canExchange cX1_canExchange 3 (some .boolean) [vR (2, 0, h), vI a, vI b] σ (pureP (canS (habs σ h) a b) σ) := by
  refine con_of pn_X1_canExchange (Nat.le_of_ble_eq_true rfl) (fun hPK hok => ?_)
  show G l (Rm 2) RX1 cX1_canExchange 3 (some .boolean) _ 0 [some (vR (2, 0, h)), some (vI a), some (vI b)] [] σ
  refine g_blk (pc' := 2) (loc' := [some (vR (2, 0, h)), some (vI a), some (vI b)]) (st' := [vI a, vR (2, 0, h)]) (σ' := σ) fl1_ok [(0, .aload_n 0), (1, .iload_n 1)] (by decide +kernel) rfl rfl ?_
  refine g_callVp (2, 0, h) [vI a] [] vl_RX1_124 mi_X1_isOpen (c_X1_isOpen l hH a) rfl rfl rfl rfl ⟨Nat.le_of_ble_eq_true rfl, Nat.le_of_ble_eq_true rfl⟩ rfl (Nat.le_of_ble_eq_true rfl) (by decide +kernel) ?_
  refine g_if_eq (off := 36) (tgt := 41) (by decide +kernel) (by decide) (fun zc5 => ?_) (fun zc5 => ?_)
  · refine g_blk (pc' := 42) (loc' := [some (vR (2, 0, h)), some (vI a), some (vI b)]) (st' := [vI (0 : Int32)]) (σ' := σ) fl1_ok [(41, .iconst 0)] (by decide +kernel) rfl rfl ?_
    exact g_zret (by decide +kernel) (Or.inl rfl) (by rw [canS, if_pos zc5]; exact ⟨rfl, rfl⟩)
  · refine g_blk (pc' := 10) (loc' := [some (vR (2, 0, h)), some (vI a), some (vI b)]) (st' := [vI b, vR (2, 0, h)]) (σ' := σ) fl1_ok [(8, .aload_n 0), (9, .iload_n 2)] (by decide +kernel) rfl rfl ?_
    refine g_callVp (2, 0, h) [vI b] [] vl_RX1_124 mi_X1_isOpen (c_X1_isOpen l hH b) rfl rfl rfl rfl ⟨Nat.le_of_ble_eq_true rfl, Nat.le_of_ble_eq_true rfl⟩ rfl (Nat.le_of_ble_eq_true rfl) (by decide +kernel) ?_
    refine g_if_eq (off := 28) (tgt := 41) (by decide +kernel) (by decide) (fun zc13 => ?_) (fun zc13 => ?_)
    · refine g_blk (pc' := 42) (loc' := [some (vR (2, 0, h)), some (vI a), some (vI b)]) (st' := [vI (0 : Int32)]) (σ' := σ) fl1_ok [(41, .iconst 0)] (by decide +kernel) rfl rfl ?_
      exact g_zret (by decide +kernel) (Or.inl rfl) (by rw [canS, if_neg zc5, if_pos zc13]; exact ⟨rfl, rfl⟩)
    · refine g_blk (pc' := 22) (loc' := [some (vR (2, 0, h)), some (vI a), some (vI b)]) (st' := [vI (1 : Int32), vI a, vR (0, 2, h)]) (σ' := σ) fl1_ok [(16, .aload_n 0), (17, .getfield 23), (20, .iload_n 1), (21, .iconst 1)] (by decide +kernel) rfl rfl ?_
      refine g_callVp (0, 2, h) [vI a, vI (1 : Int32)] [] vl_RX1_58 mi_X3_cell (ct_cell l hH 2 (by decide) a (1 : Int32)) rfl rfl rfl rfl ⟨Nat.le_of_ble_eq_true rfl, Nat.le_of_ble_eq_true rfl⟩ rfl (Nat.le_of_ble_eq_true rfl) (by decide +kernel) ?_
      refine g_blk (pc' := 31) (loc' := [some (vR (2, 0, h)), some (vI a), some (vI b)]) (st' := [vI (1 : Int32), vI b, vR (0, 2, h), vI (cl (habs σ h) 2 a (1 : Int32))]) (σ' := σ) fl1_ok [(25, .aload_n 0), (26, .getfield 23), (29, .iload_n 2), (30, .iconst 1)] (by decide +kernel) rfl rfl ?_
      refine g_callVp (0, 2, h) [vI b, vI (1 : Int32)] [vI (cl (habs σ h) 2 a (1 : Int32))] vl_RX1_58 mi_X3_cell (ct_cell l hH 2 (by decide) b (1 : Int32)) rfl rfl rfl rfl ⟨Nat.le_of_ble_eq_true rfl, Nat.le_of_ble_eq_true rfl⟩ rfl (Nat.le_of_ble_eq_true rfl) (by decide +kernel) ?_
      refine g_icmp_eq (off := 7) (tgt := 41) (by decide +kernel) (by decide) (fun zc34 => ?_) (fun zc34 => ?_)
      · refine g_blk (pc' := 42) (loc' := [some (vR (2, 0, h)), some (vI a), some (vI b)]) (st' := [vI (0 : Int32)]) (σ' := σ) fl1_ok [(41, .iconst 0)] (by decide +kernel) rfl rfl ?_
        exact g_zret (by decide +kernel) (Or.inl rfl) (by rw [canS, if_neg zc5, if_neg zc13, if_pos zc34]; exact ⟨rfl, rfl⟩)
      · refine g_blk (pc' := 42) (loc' := [some (vR (2, 0, h)), some (vI a), some (vI b)]) (st' := [vI (1 : Int32)]) (σ' := σ) fl1_ok [(37, .iconst 1), (38, .goto 4)] (by decide +kernel) rfl rfl ?_
        exact g_zret (by decide +kernel) (Or.inr rfl) (by rw [canS, if_neg zc5, if_neg zc13, if_neg zc34]; exact ⟨rfl, rfl⟩)
set_option maxHeartbeats 2000000 in
theorem c_X1_gainOfExchange (l : Launch) {σ : Sg} {h : Nat} (hH : HOK σ h) (a b : Int32) : Con l 1 yX1_gainOfExchange cX1_gainOfExchange 3 (some .int) [vR (2, 0, h), vI a, vI b] σ (pureP (gainS (habs σ h) a b) σ) := by
  refine con_of pn_X1_gainOfExchange (Nat.le_of_ble_eq_true rfl) (fun hPK hok => ?_)
  show G l (Rm 1) RX1 cX1_gainOfExchange 3 (some .int) _ 0 [some (vR (2, 0, h)), some (vI a), some (vI b)] [] σ
  refine g_blk (pc' := 6) (loc' := [some (vR (2, 0, h)), some (vI a), some (vI b)]) (st' := [vI (2 : Int32), vI b, vR (0, 2, h)]) (σ' := σ) fl1_ok [(0, .aload_n 0), (1, .getfield 23), (4, .iload_n 2), (5, .iconst 2)] (by decide +kernel) rfl rfl ?_
  refine g_callVp (0, 2, h) [vI b, vI (2 : Int32)] [] vl_RX1_58 mi_X3_cell (ct_cell l hH 2 (by decide) b (2 : Int32)) rfl rfl rfl rfl ⟨Nat.le_of_ble_eq_true rfl, Nat.le_of_ble_eq_true rfl⟩ rfl (Nat.le_of_ble_eq_true rfl) (by decide +kernel) ?_
  refine g_blk (pc' := 15) (loc' := [some (vR (2, 0, h)), some (vI a), some (vI b)]) (st' := [vI (2 : Int32), vI a, vR (0, 2, h), vI (cl (habs σ h) 2 b (2 : Int32))]) (σ' := σ) fl1_ok [(9, .aload_n 0), (10, .getfield 23), (13, .iload_n 1), (14, .iconst 2)] (by decide +kernel) rfl rfl ?_
  refine g_callVp (0, 2, h) [vI a, vI (2 : Int32)] [vI (cl (habs σ h) 2 b (2 : Int32))] vl_RX1_58 mi_X3_cell (ct_cell l hH 2 (by decide) a (2 : Int32)) rfl rfl rfl rfl ⟨Nat.le_of_ble_eq_true rfl, Nat.le_of_ble_eq_true rfl⟩ rfl (Nat.le_of_ble_eq_true rfl) (by decide +kernel) ?_
  refine g_blk (pc' := 19) (loc' := [some (vR (2, 0, h)), some (vI a), some (vI b)]) (st' := [vI ((cl (habs σ h) 2 b (2 : Int32)) - (cl (habs σ h) 2 a (2 : Int32)))]) (σ' := σ) fl1_ok [(18, .isub)] (by decide +kernel) rfl rfl ?_
  exact g_iret (by decide +kernel) (by exact ⟨rfl, rfl⟩)
set_option maxHeartbeats 2000000 in
theorem c_X1_rateOf (l : Launch) {σ : Sg} {h : Nat} (hH : HOK σ h) (r x : Int32) : Con l 1 yX1_rateOf cX1_rateOf 4 (some .int) [vR (2, 0, h), vI r, vI x] σ (pureP (rateS (habs σ h) r x) σ) := by
  refine con_of pn_X1_rateOf (Nat.le_of_ble_eq_true rfl) (fun hPK hok => ?_)
  show G l (Rm 1) RX1 cX1_rateOf 4 (some .int) _ 0 [some (vR (2, 0, h)), some (vI r), some (vI x), none] [] σ
  refine g_blk (pc' := 6) (loc' := [some (vR (2, 0, h)), some (vI r), some (vI x), none]) (st' := [vI (0 : Int32), vI r, vR (0, 0, h)]) (σ' := σ) fl1_ok [(0, .aload_n 0), (1, .getfield 16), (4, .iload_n 1), (5, .iconst 0)] (by decide +kernel) rfl rfl ?_
  refine g_callVp (0, 0, h) [vI r, vI (0 : Int32)] [] vl_RX1_58 mi_X3_cell (ct_cell l hH 0 (by decide) r (0 : Int32)) rfl rfl rfl rfl ⟨Nat.le_of_ble_eq_true rfl, Nat.le_of_ble_eq_true rfl⟩ rfl (Nat.le_of_ble_eq_true rfl) (by decide +kernel) ?_
  refine g_blk (pc' := 11) (loc' := [some (vR (2, 0, h)), some (vI r), some (vI x), some (vI (cl (habs σ h) 0 r (0 : Int32)))]) (st' := [vI (cl (habs σ h) 0 r (0 : Int32))]) (σ' := σ) fl1_ok [(9, .istore_n 3), (10, .iload_n 3)] (by decide +kernel) rfl rfl ?_
  refine g_if_le (off := 13) (tgt := 24) (by decide +kernel) (by decide) (fun zc11 => ?_) (fun zc11 => ?_)
  · refine g_blk (pc' := 25) (loc' := [some (vR (2, 0, h)), some (vI r), some (vI x), some (vI (cl (habs σ h) 0 r (0 : Int32)))]) (st' := [vI (0 : Int32)]) (σ' := σ) fl1_ok [(24, .iconst 0)] (by decide +kernel) rfl rfl ?_
    exact g_iret (by decide +kernel) (by rw [rateS, if_pos zc11]; exact ⟨rfl, rfl⟩)
  · refine g_blk (pc' := 20) (loc' := [some (vR (2, 0, h)), some (vI r), some (vI x), some (vI (cl (habs σ h) 0 r (0 : Int32)))]) (st' := [vI (cl (habs σ h) 0 r (0 : Int32)), vI ((1000 : Int32) * x)]) (σ' := σ) fl1_ok [(14, .sipush 1000), (17, .iload_n 2), (18, .imul), (19, .iload_n 3)] (by decide +kernel) rfl rfl ?_
    refine g_idiv (hy := fun z => zc11 (by rw [z]; decide)) (hd := by decide +kernel) (k := ?_)
    refine g_blk (pc' := 25) (loc' := [some (vR (2, 0, h)), some (vI r), some (vI x), some (vI (cl (habs σ h) 0 r (0 : Int32)))]) (st' := [vI (((1000 : Int32) * x) / (cl (habs σ h) 0 r (0 : Int32)))]) (σ' := σ) fl1_ok [(21, .goto 4)] (by decide +kernel) rfl rfl ?_
    exact g_iret (by decide +kernel) (by rw [rateS, if_neg zc11]; exact ⟨rfl, rfl⟩)
set_option maxHeartbeats 2000000 in
theorem lp_X1_greatestDirt (l : Launch) {σ : Sg} {h : Nat} (hH : HOK σ h) : ∀ (k i : Nat), i ≤ sz (habs σ h) 1 → sz (habs σ h) 1 < i + k → G l (Rm 1) RX1 cX1_greatestDirt 3 (some .int) (pureP (dirtL (habs σ h) (sz (habs σ h) 1)) σ) 4 [some (vR (2, 0, h)), some (vI (dirtL (habs σ h) i)), some (vI (nI i))] [] σ := by
  intro k
  induction k with
  | zero =>
    intro i  hi hk
    exact absurd hk (by omega)
  | succ k ih =>
    intro i  hi hk
    refine g_blk (pc' := 9) (loc' := [some (vR (2, 0, h)), some (vI (dirtL (habs σ h) i)), some (vI (nI i))]) (st' := [vR (0, 1, h), vI (nI i)]) (σ' := σ) fl1_ok [(4, .iload_n 2), (5, .aload_n 0), (6, .getfield 20)] (by decide +kernel) rfl rfl ?_
    refine g_callVp (0, 1, h) [] [vI (nI i)] vl_RX1_66 mi_X3_size (ct_size l hH 1 (by decide)) rfl rfl rfl rfl ⟨Nat.le_of_ble_eq_true rfl, Nat.le_of_ble_eq_true rfl⟩ rfl (Nat.le_of_ble_eq_true rfl) (by decide +kernel) ?_
    refine g_icmp_ge (off := 23) (tgt := 35) (by decide +kernel) (by decide) (fun zc12 => ?_) (fun zc12 => ?_)
    · rw [nI_leI (by have := ha_N hH 1 (by decide); have := mst_le 1; omega) (by have := ha_N hH 1 (by decide); have := mst_le 1; omega)] at zc12
      refine g_blk (pc' := 36) (loc' := [some (vR (2, 0, h)), some (vI (dirtL (habs σ h) i)), some (vI (nI i))]) (st' := [vI (dirtL (habs σ h) i)]) (σ' := σ) fl1_ok [(35, .iload_n 1)] (by decide +kernel) rfl rfl ?_
      have ei : i = sz (habs σ h) 1 := by omega
      subst ei
      exact g_iret (by decide +kernel) ⟨rfl, rfl⟩
    · rw [nI_leI (by have := ha_N hH 1 (by decide); have := mst_le 1; omega) (by have := ha_N hH 1 (by decide); have := mst_le 1; omega)] at zc12
      refine g_blk (pc' := 22) (loc' := [some (vR (2, 0, h)), some (vI (dirtL (habs σ h) i)), some (vI (nI i))]) (st' := [vI (3 : Int32), vI (nI i), vR (0, 1, h), vI (dirtL (habs σ h) i)]) (σ' := σ) fl1_ok [(15, .iload_n 1), (16, .aload_n 0), (17, .getfield 20), (20, .iload_n 2), (21, .iconst 3)] (by decide +kernel) rfl rfl ?_
      refine g_callVp (0, 1, h) [vI (nI i), vI (3 : Int32)] [vI (dirtL (habs σ h) i)] vl_RX1_58 mi_X3_cell (ct_cell l hH 1 (by decide) (nI i) (3 : Int32)) rfl rfl rfl rfl ⟨Nat.le_of_ble_eq_true rfl, Nat.le_of_ble_eq_true rfl⟩ rfl (Nat.le_of_ble_eq_true rfl) (by decide +kernel) ?_
      refine g_max jl_RX1_69 ⟨Nat.le_of_ble_eq_true rfl, Nat.le_of_ble_eq_true rfl⟩ (by decide +kernel) ?_
      refine g_blk (pc' := 4) (loc' := [some (vR (2, 0, h)), some (vI (if (dirtL (habs σ h) i) < (cl (habs σ h) 1 (nI i) (3 : Int32)) then (cl (habs σ h) 1 (nI i) (3 : Int32)) else (dirtL (habs σ h) i))), some (vI ((nI i) + (1 : Int32)))]) (st' := []) (σ' := σ) fl1_ok [(28, .istore_n 1), (29, .iinc 2 1), (32, .goto (-28))] (by decide +kernel) rfl rfl ?_
      have hstep : dirtL (habs σ h) (i + 1) = if (dirtL (habs σ h) i) < (cl (habs σ h) 1 (nI i) (3 : Int32)) then (cl (habs σ h) 1 (nI i) (3 : Int32)) else (dirtL (habs σ h) i) := by rw [dirtL]
      rw [nI_1, ← hstep]
      exact g_sub (loc' := [some (vR (2, 0, h)), some (vI (dirtL (habs σ h) (i + 1))), some (vI (nI (i + 1)))]) ⟨Or.inr rfl, ⟨Or.inr rfl, ⟨Or.inr rfl, trivial⟩⟩⟩ (ih (i + 1) (by omega) (by omega))
set_option maxHeartbeats 2000000 in
theorem c_X1_greatestDirt (l : Launch) {σ : Sg} {h : Nat} (hH : HOK σ h) : Con l 1 yX1_greatestDirt cX1_greatestDirt 3 (some .int) [vR (2, 0, h)] σ (pureP (dirtL (habs σ h) (sz (habs σ h) 1)) σ) := by
  refine con_of pn_X1_greatestDirt (Nat.le_of_ble_eq_true rfl) (fun hPK hok => ?_)
  show G l (Rm 1) RX1 cX1_greatestDirt 3 (some .int) _ 0 [some (vR (2, 0, h)), none, none] [] σ
  refine g_blk (pc' := 4) (loc' := [some (vR (2, 0, h)), some (vI (0 : Int32)), some (vI (0 : Int32))]) (st' := []) (σ' := σ) fl1_ok [(0, .iconst 0), (1, .istore_n 1), (2, .iconst 0), (3, .istore_n 2)] (by decide +kernel) rfl rfl ?_
  exact lp_X1_greatestDirt l hH (sz (habs σ h) 1 + 1) 0 (Nat.zero_le _) (by omega)
set_option maxHeartbeats 2000000 in
theorem lp_X1_countOpenTasks (l : Launch) {σ : Sg} {h : Nat} (hH : HOK σ h) : ∀ (k i : Nat), i ≤ sz (habs σ h) 2 → sz (habs σ h) 2 < i + k → G l (Rm 2) RX1 cX1_countOpenTasks 3 (some .int) (pureP (cntL (habs σ h) (sz (habs σ h) 2)) σ) 4 [some (vR (2, 0, h)), some (vI (cntL (habs σ h) i)), some (vI (nI i))] [] σ := by
  intro k
  induction k with
  | zero =>
    intro i  hi hk
    exact absurd hk (by omega)
  | succ k ih =>
    intro i  hi hk
    refine g_blk (pc' := 9) (loc' := [some (vR (2, 0, h)), some (vI (cntL (habs σ h) i)), some (vI (nI i))]) (st' := [vR (0, 2, h), vI (nI i)]) (σ' := σ) fl1_ok [(4, .iload_n 2), (5, .aload_n 0), (6, .getfield 23)] (by decide +kernel) rfl rfl ?_
    refine g_callVp (0, 2, h) [] [vI (nI i)] vl_RX1_66 mi_X3_size (ct_size l hH 2 (by decide)) rfl rfl rfl rfl ⟨Nat.le_of_ble_eq_true rfl, Nat.le_of_ble_eq_true rfl⟩ rfl (Nat.le_of_ble_eq_true rfl) (by decide +kernel) ?_
    refine g_icmp_ge (off := 20) (tgt := 32) (by decide +kernel) (by decide) (fun zc12 => ?_) (fun zc12 => ?_)
    · rw [nI_leI (by have := ha_N hH 2 (by decide); have := mst_le 2; omega) (by have := ha_N hH 2 (by decide); have := mst_le 2; omega)] at zc12
      refine g_blk (pc' := 33) (loc' := [some (vR (2, 0, h)), some (vI (cntL (habs σ h) i)), some (vI (nI i))]) (st' := [vI (cntL (habs σ h) i)]) (σ' := σ) fl1_ok [(32, .iload_n 1)] (by decide +kernel) rfl rfl ?_
      have ei : i = sz (habs σ h) 2 := by omega
      subst ei
      exact g_iret (by decide +kernel) ⟨rfl, rfl⟩
    · rw [nI_leI (by have := ha_N hH 2 (by decide); have := mst_le 2; omega) (by have := ha_N hH 2 (by decide); have := mst_le 2; omega)] at zc12
      refine g_blk (pc' := 18) (loc' := [some (vR (2, 0, h)), some (vI (cntL (habs σ h) i)), some (vI (nI i))]) (st' := [vI (nI i), vR (2, 0, h), vI (cntL (habs σ h) i)]) (σ' := σ) fl1_ok [(15, .iload_n 1), (16, .aload_n 0), (17, .iload_n 2)] (by decide +kernel) rfl rfl ?_
      refine g_callVp (2, 0, h) [vI (nI i)] [vI (cntL (habs σ h) i)] vl_RX1_124 mi_X1_isOpen (c_X1_isOpen l hH (nI i)) rfl rfl rfl rfl ⟨Nat.le_of_ble_eq_true rfl, Nat.le_of_ble_eq_true rfl⟩ rfl (Nat.le_of_ble_eq_true rfl) (by decide +kernel) ?_
      refine g_callNp (idx := 104) [vI (openS (habs σ h) (nI i))] [vI (cntL (habs σ h) i)] (by decide +kernel) nl_X4_bit mi_X4_bit (c_X4_bit l (openS (habs σ h) (nI i))) rfl ⟨Nat.le_of_ble_eq_true rfl, Nat.le_of_ble_eq_true rfl⟩ rfl (Nat.le_of_ble_eq_true rfl) (by decide +kernel) ?_
      refine g_blk (pc' := 4) (loc' := [some (vR (2, 0, h)), some (vI ((cntL (habs σ h) i) + (bitS (openS (habs σ h) (nI i))))), some (vI ((nI i) + (1 : Int32)))]) (st' := []) (σ' := σ) fl1_ok [(24, .iadd), (25, .istore_n 1), (26, .iinc 2 1), (29, .goto (-25))] (by decide +kernel) rfl rfl ?_
      have hstep : cntL (habs σ h) (i + 1) = (cntL (habs σ h) i) + (bitS (openS (habs σ h) (nI i))) := by rw [cntL]
      rw [nI_1, ← hstep]
      exact g_sub (loc' := [some (vR (2, 0, h)), some (vI (cntL (habs σ h) (i + 1))), some (vI (nI (i + 1)))]) ⟨Or.inr rfl, ⟨Or.inr rfl, ⟨Or.inr rfl, trivial⟩⟩⟩ (ih (i + 1) (by omega) (by omega))
set_option maxHeartbeats 2000000 in
theorem c_X1_countOpenTasks (l : Launch) {σ : Sg} {h : Nat} (hH : HOK σ h) : Con l 2 yX1_countOpenTasks cX1_countOpenTasks 3 (some .int) [vR (2, 0, h)] σ (pureP (cntL (habs σ h) (sz (habs σ h) 2)) σ) := by
  refine con_of pn_X1_countOpenTasks (Nat.le_of_ble_eq_true rfl) (fun hPK hok => ?_)
  show G l (Rm 2) RX1 cX1_countOpenTasks 3 (some .int) _ 0 [some (vR (2, 0, h)), none, none] [] σ
  refine g_blk (pc' := 4) (loc' := [some (vR (2, 0, h)), some (vI (0 : Int32)), some (vI (0 : Int32))]) (st' := []) (σ' := σ) fl1_ok [(0, .iconst 0), (1, .istore_n 1), (2, .iconst 0), (3, .istore_n 2)] (by decide +kernel) rfl rfl ?_
  exact lp_X1_countOpenTasks l hH (sz (habs σ h) 2 + 1) 0 (Nat.zero_le _) (by omega)
set_option maxHeartbeats 2000000 in
theorem lp_X1_countOpenTasksOf (l : Launch) {σ : Sg} {h : Nat} (hH : HOK σ h) (r : Int32) : ∀ (k i : Nat), i ≤ sz (habs σ h) 2 → sz (habs σ h) 2 < i + k → G l (Rm 3) RX1 cX1_countOpenTasksOf 4 (some .int) (pureP (cntOL (habs σ h) r (sz (habs σ h) 2)) σ) 4 [some (vR (2, 0, h)), some (vI r), some (vI (cntOL (habs σ h) r i)), some (vI (nI i))] [] σ := by
  intro k
  induction k with
  | zero =>
    intro i  hi hk
    exact absurd hk (by omega)
  | succ k ih =>
    intro i  hi hk
    refine g_blk (pc' := 9) (loc' := [some (vR (2, 0, h)), some (vI r), some (vI (cntOL (habs σ h) r i)), some (vI (nI i))]) (st' := [vR (0, 2, h), vI (nI i)]) (σ' := σ) fl1_ok [(4, .iload_n 3), (5, .aload_n 0), (6, .getfield 23)] (by decide +kernel) rfl rfl ?_
    refine g_callVp (0, 2, h) [] [vI (nI i)] vl_RX1_66 mi_X3_size (ct_size l hH 2 (by decide)) rfl rfl rfl rfl ⟨Nat.le_of_ble_eq_true rfl, Nat.le_of_ble_eq_true rfl⟩ rfl (Nat.le_of_ble_eq_true rfl) (by decide +kernel) ?_
    refine g_icmp_ge (off := 21) (tgt := 33) (by decide +kernel) (by decide) (fun zc12 => ?_) (fun zc12 => ?_)
    · rw [nI_leI (by have := ha_N hH 2 (by decide); have := mst_le 2; omega) (by have := ha_N hH 2 (by decide); have := mst_le 2; omega)] at zc12
      refine g_blk (pc' := 34) (loc' := [some (vR (2, 0, h)), some (vI r), some (vI (cntOL (habs σ h) r i)), some (vI (nI i))]) (st' := [vI (cntOL (habs σ h) r i)]) (σ' := σ) fl1_ok [(33, .iload_n 2)] (by decide +kernel) rfl rfl ?_
      have ei : i = sz (habs σ h) 2 := by omega
      subst ei
      exact g_iret (by decide +kernel) ⟨rfl, rfl⟩
    · rw [nI_leI (by have := ha_N hH 2 (by decide); have := mst_le 2; omega) (by have := ha_N hH 2 (by decide); have := mst_le 2; omega)] at zc12
      refine g_blk (pc' := 19) (loc' := [some (vR (2, 0, h)), some (vI r), some (vI (cntOL (habs σ h) r i)), some (vI (nI i))]) (st' := [vI r, vI (nI i), vR (2, 0, h), vI (cntOL (habs σ h) r i)]) (σ' := σ) fl1_ok [(15, .iload_n 2), (16, .aload_n 0), (17, .iload_n 3), (18, .iload_n 1)] (by decide +kernel) rfl rfl ?_
      refine g_callVp (2, 0, h) [vI (nI i), vI r] [vI (cntOL (habs σ h) r i)] vl_RX1_127 mi_X1_isOpenTaskOf (c_X1_isOpenTaskOf l hH (nI i) r) rfl rfl rfl rfl ⟨Nat.le_of_ble_eq_true rfl, Nat.le_of_ble_eq_true rfl⟩ rfl (Nat.le_of_ble_eq_true rfl) (by decide +kernel) ?_
      refine g_callNp (idx := 104) [vI (openOfS (habs σ h) (nI i) r)] [vI (cntOL (habs σ h) r i)] (by decide +kernel) nl_X4_bit mi_X4_bit (c_X4_bit l (openOfS (habs σ h) (nI i) r)) rfl ⟨Nat.le_of_ble_eq_true rfl, Nat.le_of_ble_eq_true rfl⟩ rfl (Nat.le_of_ble_eq_true rfl) (by decide +kernel) ?_
      refine g_blk (pc' := 4) (loc' := [some (vR (2, 0, h)), some (vI r), some (vI ((cntOL (habs σ h) r i) + (bitS (openOfS (habs σ h) (nI i) r)))), some (vI ((nI i) + (1 : Int32)))]) (st' := []) (σ' := σ) fl1_ok [(25, .iadd), (26, .istore_n 2), (27, .iinc 3 1), (30, .goto (-26))] (by decide +kernel) rfl rfl ?_
      have hstep : cntOL (habs σ h) r (i + 1) = (cntOL (habs σ h) r i) + (bitS (openOfS (habs σ h) (nI i) r)) := by rw [cntOL]
      rw [nI_1, ← hstep]
      exact g_sub (loc' := [some (vR (2, 0, h)), some (vI r), some (vI (cntOL (habs σ h) r (i + 1))), some (vI (nI (i + 1)))]) ⟨Or.inr rfl, ⟨Or.inr rfl, ⟨Or.inr rfl, ⟨Or.inr rfl, trivial⟩⟩⟩⟩ (ih (i + 1) (by omega) (by omega))
set_option maxHeartbeats 2000000 in
theorem c_X1_countOpenTasksOf (l : Launch) {σ : Sg} {h : Nat} (hH : HOK σ h) (r : Int32) : Con l 3 yX1_countOpenTasksOf cX1_countOpenTasksOf 4 (some .int) [vR (2, 0, h), vI r] σ (pureP (cntOL (habs σ h) r (sz (habs σ h) 2)) σ) := by
  refine con_of pn_X1_countOpenTasksOf (Nat.le_of_ble_eq_true rfl) (fun hPK hok => ?_)
  show G l (Rm 3) RX1 cX1_countOpenTasksOf 4 (some .int) _ 0 [some (vR (2, 0, h)), some (vI r), none, none] [] σ
  refine g_blk (pc' := 4) (loc' := [some (vR (2, 0, h)), some (vI r), some (vI (0 : Int32)), some (vI (0 : Int32))]) (st' := []) (σ' := σ) fl1_ok [(0, .iconst 0), (1, .istore_n 2), (2, .iconst 0), (3, .istore_n 3)] (by decide +kernel) rfl rfl ?_
  exact lp_X1_countOpenTasksOf l hH r (sz (habs σ h) 2 + 1) 0 (Nat.zero_le _) (by omega)
set_option maxHeartbeats 2000000 in
theorem lp_X1_countOpenDeepTasks (l : Launch) {σ : Sg} {h : Nat} (hH : HOK σ h) : ∀ (k i : Nat), i ≤ sz (habs σ h) 2 → sz (habs σ h) 2 < i + k → G l (Rm 2) RX1 cX1_countOpenDeepTasks 3 (some .int) (pureP (cntDL (habs σ h) (sz (habs σ h) 2)) σ) 4 [some (vR (2, 0, h)), some (vI (cntDL (habs σ h) i)), some (vI (nI i))] [] σ := by
  intro k
  induction k with
  | zero =>
    intro i  hi hk
    exact absurd hk (by omega)
  | succ k ih =>
    intro i  hi hk
    refine g_blk (pc' := 9) (loc' := [some (vR (2, 0, h)), some (vI (cntDL (habs σ h) i)), some (vI (nI i))]) (st' := [vR (0, 2, h), vI (nI i)]) (σ' := σ) fl1_ok [(4, .iload_n 2), (5, .aload_n 0), (6, .getfield 23)] (by decide +kernel) rfl rfl ?_
    refine g_callVp (0, 2, h) [] [vI (nI i)] vl_RX1_66 mi_X3_size (ct_size l hH 2 (by decide)) rfl rfl rfl rfl ⟨Nat.le_of_ble_eq_true rfl, Nat.le_of_ble_eq_true rfl⟩ rfl (Nat.le_of_ble_eq_true rfl) (by decide +kernel) ?_
    refine g_icmp_ge (off := 41) (tgt := 53) (by decide +kernel) (by decide) (fun zc12 => ?_) (fun zc12 => ?_)
    · rw [nI_leI (by have := ha_N hH 2 (by decide); have := mst_le 2; omega) (by have := ha_N hH 2 (by decide); have := mst_le 2; omega)] at zc12
      have ei : i = (sz (habs σ h) 2) := by omega
      rw [ei]
      refine g_blk (pc' := 54) (loc' := [some (vR (2, 0, h)), some (vI (cntDL (habs σ h) (sz (habs σ h) 2))), some (vI (nI (sz (habs σ h) 2)))]) (st' := [vI (cntDL (habs σ h) (sz (habs σ h) 2))]) (σ' := σ) fl1_ok [(53, .iload_n 1)] (by decide +kernel) rfl rfl ?_
      exact g_iret (by decide +kernel) (by exact ⟨rfl, rfl⟩)
    · rw [nI_leI (by have := ha_N hH 2 (by decide); have := mst_le 2; omega) (by have := ha_N hH 2 (by decide); have := mst_le 2; omega)] at zc12
      refine g_blk (pc' := 18) (loc' := [some (vR (2, 0, h)), some (vI (cntDL (habs σ h) i)), some (vI (nI i))]) (st' := [vI (nI i), vR (2, 0, h), vI (cntDL (habs σ h) i)]) (σ' := σ) fl1_ok [(15, .iload_n 1), (16, .aload_n 0), (17, .iload_n 2)] (by decide +kernel) rfl rfl ?_
      refine g_callVp (2, 0, h) [vI (nI i)] [vI (cntDL (habs σ h) i)] vl_RX1_124 mi_X1_isOpen (c_X1_isOpen l hH (nI i)) rfl rfl rfl rfl ⟨Nat.le_of_ble_eq_true rfl, Nat.le_of_ble_eq_true rfl⟩ rfl (Nat.le_of_ble_eq_true rfl) (by decide +kernel) ?_
      refine g_if_eq (off := 20) (tgt := 41) (by decide +kernel) (by decide) (fun zc21 => ?_) (fun zc21 => ?_)
      · refine g_blk (pc' := 42) (loc' := [some (vR (2, 0, h)), some (vI (cntDL (habs σ h) i)), some (vI (nI i))]) (st' := [vI (0 : Int32), vI (cntDL (habs σ h) i)]) (σ' := σ) fl1_ok [(41, .iconst 0)] (by decide +kernel) rfl rfl ?_
        refine g_callNp (idx := 104) [vI (0 : Int32)] [vI (cntDL (habs σ h) i)] (by decide +kernel) nl_X4_bit mi_X4_bit (c_X4_bit l (0 : Int32)) rfl ⟨Nat.le_of_ble_eq_true rfl, Nat.le_of_ble_eq_true rfl⟩ rfl (Nat.le_of_ble_eq_true rfl) (by decide +kernel) ?_
        refine g_blk (pc' := 4) (loc' := [some (vR (2, 0, h)), some (vI ((cntDL (habs σ h) i) + (bitS (0 : Int32)))), some (vI ((nI i) + (1 : Int32)))]) (st' := []) (σ' := σ) fl1_ok [(45, .iadd), (46, .istore_n 1), (47, .iinc 2 1), (50, .goto (-46))] (by decide +kernel) rfl rfl ?_
        have hstep : cntDL (habs σ h) (i + 1) = (cntDL (habs σ h) i) + (bitS (0 : Int32)) := by rw [cntDL, openDeepS, if_pos zc21]
        have hih := ih (i + 1) (by omega) (by omega)
        rw [hstep] at hih
        rw [nI_1]
        exact g_sub (loc' := [some (vR (2, 0, h)), some (vI ((cntDL (habs σ h) i) + (bitS (0 : Int32)))), some (vI (nI (i + 1)))]) ⟨Or.inr rfl, ⟨Or.inr rfl, ⟨Or.inr rfl, trivial⟩⟩⟩ hih
      · refine g_blk (pc' := 30) (loc' := [some (vR (2, 0, h)), some (vI (cntDL (habs σ h) i)), some (vI (nI i))]) (st' := [vI (4 : Int32), vI (nI i), vR (0, 2, h), vI (cntDL (habs σ h) i)]) (σ' := σ) fl1_ok [(24, .aload_n 0), (25, .getfield 23), (28, .iload_n 2), (29, .iconst 4)] (by decide +kernel) rfl rfl ?_
        refine g_callVp (0, 2, h) [vI (nI i), vI (4 : Int32)] [vI (cntDL (habs σ h) i)] vl_RX1_58 mi_X3_cell (ct_cell l hH 2 (by decide) (nI i) (4 : Int32)) rfl rfl rfl rfl ⟨Nat.le_of_ble_eq_true rfl, Nat.le_of_ble_eq_true rfl⟩ rfl (Nat.le_of_ble_eq_true rfl) (by decide +kernel) ?_
        refine g_blk (pc' := 34) (loc' := [some (vR (2, 0, h)), some (vI (cntDL (habs σ h) i)), some (vI (nI i))]) (st' := [vI (1 : Int32), vI (cl (habs σ h) 2 (nI i) (4 : Int32)), vI (cntDL (habs σ h) i)]) (σ' := σ) fl1_ok [(33, .iconst 1)] (by decide +kernel) rfl rfl ?_
        refine g_icmp_ne (off := 7) (tgt := 41) (by decide +kernel) (by decide) (fun zc34 => ?_) (fun zc34 => ?_)
        · refine g_blk (pc' := 42) (loc' := [some (vR (2, 0, h)), some (vI (cntDL (habs σ h) i)), some (vI (nI i))]) (st' := [vI (0 : Int32), vI (cntDL (habs σ h) i)]) (σ' := σ) fl1_ok [(41, .iconst 0)] (by decide +kernel) rfl rfl ?_
          refine g_callNp (idx := 104) [vI (0 : Int32)] [vI (cntDL (habs σ h) i)] (by decide +kernel) nl_X4_bit mi_X4_bit (c_X4_bit l (0 : Int32)) rfl ⟨Nat.le_of_ble_eq_true rfl, Nat.le_of_ble_eq_true rfl⟩ rfl (Nat.le_of_ble_eq_true rfl) (by decide +kernel) ?_
          refine g_blk (pc' := 4) (loc' := [some (vR (2, 0, h)), some (vI ((cntDL (habs σ h) i) + (bitS (0 : Int32)))), some (vI ((nI i) + (1 : Int32)))]) (st' := []) (σ' := σ) fl1_ok [(45, .iadd), (46, .istore_n 1), (47, .iinc 2 1), (50, .goto (-46))] (by decide +kernel) rfl rfl ?_
          have hstep : cntDL (habs σ h) (i + 1) = (cntDL (habs σ h) i) + (bitS (0 : Int32)) := by rw [cntDL, openDeepS, if_neg zc21, if_pos zc34]
          have hih := ih (i + 1) (by omega) (by omega)
          rw [hstep] at hih
          rw [nI_1]
          exact g_sub (loc' := [some (vR (2, 0, h)), some (vI ((cntDL (habs σ h) i) + (bitS (0 : Int32)))), some (vI (nI (i + 1)))]) ⟨Or.inr rfl, ⟨Or.inr rfl, ⟨Or.inr rfl, trivial⟩⟩⟩ hih
        · refine g_blk (pc' := 42) (loc' := [some (vR (2, 0, h)), some (vI (cntDL (habs σ h) i)), some (vI (nI i))]) (st' := [vI (1 : Int32), vI (cntDL (habs σ h) i)]) (σ' := σ) fl1_ok [(37, .iconst 1), (38, .goto 4)] (by decide +kernel) rfl rfl ?_
          refine g_callNp (idx := 104) [vI (1 : Int32)] [vI (cntDL (habs σ h) i)] (by decide +kernel) nl_X4_bit mi_X4_bit (c_X4_bit l (1 : Int32)) rfl ⟨Nat.le_of_ble_eq_true rfl, Nat.le_of_ble_eq_true rfl⟩ rfl (Nat.le_of_ble_eq_true rfl) (by decide +kernel) ?_
          refine g_blk (pc' := 4) (loc' := [some (vR (2, 0, h)), some (vI ((cntDL (habs σ h) i) + (bitS (1 : Int32)))), some (vI ((nI i) + (1 : Int32)))]) (st' := []) (σ' := σ) fl1_ok [(45, .iadd), (46, .istore_n 1), (47, .iinc 2 1), (50, .goto (-46))] (by decide +kernel) rfl rfl ?_
          have hstep : cntDL (habs σ h) (i + 1) = (cntDL (habs σ h) i) + (bitS (1 : Int32)) := by rw [cntDL, openDeepS, if_neg zc21, if_neg (not_not_intro zc34)]
          have hih := ih (i + 1) (by omega) (by omega)
          rw [hstep] at hih
          rw [nI_1]
          exact g_sub (loc' := [some (vR (2, 0, h)), some (vI ((cntDL (habs σ h) i) + (bitS (1 : Int32)))), some (vI (nI (i + 1)))]) ⟨Or.inr rfl, ⟨Or.inr rfl, ⟨Or.inr rfl, trivial⟩⟩⟩ hih
set_option maxHeartbeats 2000000 in
theorem c_X1_countOpenDeepTasks (l : Launch) {σ : Sg} {h : Nat} (hH : HOK σ h) : Con l 2 yX1_countOpenDeepTasks cX1_countOpenDeepTasks 3 (some .int) [vR (2, 0, h)] σ (pureP (cntDL (habs σ h) (sz (habs σ h) 2)) σ) := by
  refine con_of pn_X1_countOpenDeepTasks (Nat.le_of_ble_eq_true rfl) (fun hPK hok => ?_)
  show G l (Rm 2) RX1 cX1_countOpenDeepTasks 3 (some .int) _ 0 [some (vR (2, 0, h)), none, none] [] σ
  refine g_blk (pc' := 4) (loc' := [some (vR (2, 0, h)), some (vI (0 : Int32)), some (vI (0 : Int32))]) (st' := []) (σ' := σ) fl1_ok [(0, .iconst 0), (1, .istore_n 1), (2, .iconst 0), (3, .istore_n 2)] (by decide +kernel) rfl rfl ?_
  refine g_sub (loc' := [some (vR (2, 0, h)), some (vI (0 : Int32)), some (vI (0 : Int32))]) ⟨Or.inr rfl, ⟨Or.inr rfl, ⟨Or.inr rfl, trivial⟩⟩⟩ ?_
  exact lp_X1_countOpenDeepTasks l hH (sz (habs σ h) 2 + 1) 0 (Nat.zero_le _) (by omega)
set_option maxHeartbeats 2000000 in
theorem lp_X1_areaOfNextTask (l : Launch) {σ : Sg} {h : Nat} (hH : HOK σ h) (f : Int32) : ∀ (k i : Nat), i ≤ sz (habs σ h) 1 → sz (habs σ h) 1 < i + k → G l (Rm 3) RX1 cX1_areaOfNextTask 6 (some .int) (pureP (nextS (habs σ h) f) σ) 8 [some (vR (2, 0, h)), some (vI f), some (vI ((nextL (habs σ h) f i).1)), some (vI ((nextL (habs σ h) f i).2)), some (vI (nI i)), none] [] σ := by
  intro k
  induction k with
  | zero =>
    intro i  hi hk
    exact absurd hk (by omega)
  | succ k ih =>
    intro i  hi hk
    refine g_blk (pc' := 14) (loc' := [some (vR (2, 0, h)), some (vI f), some (vI ((nextL (habs σ h) f i).1)), some (vI ((nextL (habs σ h) f i).2)), some (vI (nI i)), none]) (st' := [vR (0, 1, h), vI (nI i)]) (σ' := σ) fl1_ok [(8, .iload 4), (10, .aload_n 0), (11, .getfield 20)] (by decide +kernel) rfl rfl ?_
    refine g_callVp (0, 1, h) [] [vI (nI i)] vl_RX1_66 mi_X3_size (ct_size l hH 1 (by decide)) rfl rfl rfl rfl ⟨Nat.le_of_ble_eq_true rfl, Nat.le_of_ble_eq_true rfl⟩ rfl (Nat.le_of_ble_eq_true rfl) (by decide +kernel) ?_
    refine g_icmp_ge (off := 38) (tgt := 55) (by decide +kernel) (by decide) (fun zc17 => ?_) (fun zc17 => ?_)
    · rw [nI_leI (by have := ha_N hH 1 (by decide); have := mst_le 1; omega) (by have := ha_N hH 1 (by decide); have := mst_le 1; omega)] at zc17
      have ei : i = (sz (habs σ h) 1) := by omega
      rw [ei]
      refine g_blk (pc' := 56) (loc' := [some (vR (2, 0, h)), some (vI f), some (vI ((nextL (habs σ h) f (sz (habs σ h) 1)).1)), some (vI ((nextL (habs σ h) f (sz (habs σ h) 1)).2)), some (vI (nI (sz (habs σ h) 1))), none]) (st' := [vI ((nextL (habs σ h) f (sz (habs σ h) 1)).1)]) (σ' := σ) fl1_ok [(55, .iload_n 2)] (by decide +kernel) rfl rfl ?_
      exact g_iret (by decide +kernel) (by exact ⟨rfl, rfl⟩)
    · rw [nI_leI (by have := ha_N hH 1 (by decide); have := mst_le 1; omega) (by have := ha_N hH 1 (by decide); have := mst_le 1; omega)] at zc17
      refine g_blk (pc' := 23) (loc' := [some (vR (2, 0, h)), some (vI f), some (vI ((nextL (habs σ h) f i).1)), some (vI ((nextL (habs σ h) f i).2)), some (vI (nI i)), none]) (st' := [vI (nI i), vR (2, 0, h)]) (σ' := σ) fl1_ok [(20, .aload_n 0), (21, .iload 4)] (by decide +kernel) rfl rfl ?_
      refine g_callVp (2, 0, h) [vI (nI i)] [] vl_RX1_90 mi_X1_effortOfTask (c_X1_effortOfTask l hH (nI i)) rfl rfl rfl rfl ⟨Nat.le_of_ble_eq_true rfl, Nat.le_of_ble_eq_true rfl⟩ rfl (Nat.le_of_ble_eq_true rfl) (by decide +kernel) ?_
      refine g_blk (pc' := 34) (loc' := [some (vR (2, 0, h)), some (vI f), some (vI ((nextL (habs σ h) f i).1)), some (vI ((nextL (habs σ h) f i).2)), some (vI (nI i)), some (vI (effS (habs σ h) (nI i)))]) (st' := [vI ((f >>> ((nI i) &&& 31)) &&& (1 : Int32))]) (σ' := σ) fl1_ok [(26, .istore 5), (28, .iload_n 1), (29, .iload 4), (31, .ishr), (32, .iconst 1), (33, .iand)] (by decide +kernel) rfl rfl ?_
      refine g_if_ne (off := 15) (tgt := 49) (by decide +kernel) (by decide) (fun zc34 => ?_) (fun zc34 => ?_)
      · refine g_blk (pc' := 8) (loc' := [some (vR (2, 0, h)), some (vI f), some (vI ((nextL (habs σ h) f i).1)), some (vI ((nextL (habs σ h) f i).2)), some (vI ((nI i) + (1 : Int32))), some (vI (effS (habs σ h) (nI i)))]) (st' := []) (σ' := σ) fl1_ok [(49, .iinc 4 1), (52, .goto (-44))] (by decide +kernel) rfl rfl ?_
        have hstep : nextL (habs σ h) f (i + 1) = ((nextL (habs σ h) f i).1, (nextL (habs σ h) f i).2) := by rw [nextL, if_pos zc34]
        have hih := ih (i + 1) (by omega) (by omega)
        rw [hstep] at hih
        rw [nI_1]
        exact g_sub (loc' := [some (vR (2, 0, h)), some (vI f), some (vI ((nextL (habs σ h) f i).1)), some (vI ((nextL (habs σ h) f i).2)), some (vI (nI (i + 1))), none]) ⟨Or.inr rfl, ⟨Or.inr rfl, ⟨Or.inr rfl, ⟨Or.inr rfl, ⟨Or.inr rfl, ⟨Or.inl rfl, trivial⟩⟩⟩⟩⟩⟩ hih
      · refine g_blk (pc' := 40) (loc' := [some (vR (2, 0, h)), some (vI f), some (vI ((nextL (habs σ h) f i).1)), some (vI ((nextL (habs σ h) f i).2)), some (vI (nI i)), some (vI (effS (habs σ h) (nI i)))]) (st' := [vI ((nextL (habs σ h) f i).2), vI (effS (habs σ h) (nI i))]) (σ' := σ) fl1_ok [(37, .iload 5), (39, .iload_n 3)] (by decide +kernel) rfl rfl ?_
        refine g_icmp_le (off := 9) (tgt := 49) (by decide +kernel) (by decide) (fun zc40 => ?_) (fun zc40 => ?_)
        · refine g_blk (pc' := 8) (loc' := [some (vR (2, 0, h)), some (vI f), some (vI ((nextL (habs σ h) f i).1)), some (vI ((nextL (habs σ h) f i).2)), some (vI ((nI i) + (1 : Int32))), some (vI (effS (habs σ h) (nI i)))]) (st' := []) (σ' := σ) fl1_ok [(49, .iinc 4 1), (52, .goto (-44))] (by decide +kernel) rfl rfl ?_
          have hstep : nextL (habs σ h) f (i + 1) = ((nextL (habs σ h) f i).1, (nextL (habs σ h) f i).2) := by rw [nextL, if_neg (not_not_intro zc34), if_pos zc40]
          have hih := ih (i + 1) (by omega) (by omega)
          rw [hstep] at hih
          rw [nI_1]
          exact g_sub (loc' := [some (vR (2, 0, h)), some (vI f), some (vI ((nextL (habs σ h) f i).1)), some (vI ((nextL (habs σ h) f i).2)), some (vI (nI (i + 1))), none]) ⟨Or.inr rfl, ⟨Or.inr rfl, ⟨Or.inr rfl, ⟨Or.inr rfl, ⟨Or.inr rfl, ⟨Or.inl rfl, trivial⟩⟩⟩⟩⟩⟩ hih
        · refine g_blk (pc' := 8) (loc' := [some (vR (2, 0, h)), some (vI f), some (vI (nI i)), some (vI (effS (habs σ h) (nI i))), some (vI ((nI i) + (1 : Int32))), some (vI (effS (habs σ h) (nI i)))]) (st' := []) (σ' := σ) fl1_ok [(43, .iload 4), (45, .istore_n 2), (46, .iload 5), (48, .istore_n 3), (49, .iinc 4 1), (52, .goto (-44))] (by decide +kernel) rfl rfl ?_
          have hstep : nextL (habs σ h) f (i + 1) = (nI i, effS (habs σ h) (nI i)) := by rw [nextL, if_neg (not_not_intro zc34), if_neg zc40]
          have hih := ih (i + 1) (by omega) (by omega)
          rw [hstep] at hih
          rw [nI_1]
          exact g_sub (loc' := [some (vR (2, 0, h)), some (vI f), some (vI (nI i)), some (vI (effS (habs σ h) (nI i))), some (vI (nI (i + 1))), none]) ⟨Or.inr rfl, ⟨Or.inr rfl, ⟨Or.inr rfl, ⟨Or.inr rfl, ⟨Or.inr rfl, ⟨Or.inl rfl, trivial⟩⟩⟩⟩⟩⟩ hih
set_option maxHeartbeats 2000000 in
theorem c_X1_areaOfNextTask (l : Launch) {σ : Sg} {h : Nat} (hH : HOK σ h) (f : Int32) : Con l 3 yX1_areaOfNextTask cX1_areaOfNextTask 6 (some .int) [vR (2, 0, h), vI f] σ (pureP (nextS (habs σ h) f) σ) := by
  refine con_of pn_X1_areaOfNextTask (Nat.le_of_ble_eq_true rfl) (fun hPK hok => ?_)
  show G l (Rm 3) RX1 cX1_areaOfNextTask 6 (some .int) _ 0 [some (vR (2, 0, h)), some (vI f), none, none, none, none] [] σ
  refine g_blk (pc' := 8) (loc' := [some (vR (2, 0, h)), some (vI f), some (vI (-6 : Int32)), some (vI (0 : Int32)), some (vI (0 : Int32)), none]) (st' := []) (σ' := σ) fl1_ok [(0, .bipush (-6)), (2, .istore_n 2), (3, .iconst 0), (4, .istore_n 3), (5, .iconst 0), (6, .istore 4)] (by decide +kernel) rfl rfl ?_
  refine g_sub (loc' := [some (vR (2, 0, h)), some (vI f), some (vI (-6 : Int32)), some (vI (0 : Int32)), some (vI (0 : Int32)), none]) ⟨Or.inr rfl, ⟨Or.inr rfl, ⟨Or.inr rfl, ⟨Or.inr rfl, ⟨Or.inr rfl, ⟨Or.inr rfl, trivial⟩⟩⟩⟩⟩⟩ ?_
  exact lp_X1_areaOfNextTask l hH f (sz (habs σ h) 1 + 1) 0 (Nat.zero_le _) (by omega)
set_option maxHeartbeats 2000000 in
theorem lp_X1_leastLoaded (l : Launch) {σ : Sg} {h : Nat} (hH : HOK σ h) (b : Int32) : ∀ (k i : Nat), i ≤ sz (habs σ h) 0 → sz (habs σ h) 0 < i + k → G l (Rm 3) RX1 cX1_leastLoaded 5 (some .int) (pureP (leastS (habs σ h) b) σ) 5 [some (vR (2, 0, h)), some (vI b), some (vI (leastL (habs σ h) b i)), some (vI (nI i)), none] [] σ := by
  intro k
  induction k with
  | zero =>
    intro i  hi hk
    exact absurd hk (by omega)
  | succ k ih =>
    intro i  hi hk
    refine g_blk (pc' := 10) (loc' := [some (vR (2, 0, h)), some (vI b), some (vI (leastL (habs σ h) b i)), some (vI (nI i)), none]) (st' := [vR (0, 0, h), vI (nI i)]) (σ' := σ) fl1_ok [(5, .iload_n 3), (6, .aload_n 0), (7, .getfield 16)] (by decide +kernel) rfl rfl ?_
    refine g_callVp (0, 0, h) [] [vI (nI i)] vl_RX1_66 mi_X3_size (ct_size l hH 0 (by decide)) rfl rfl rfl rfl ⟨Nat.le_of_ble_eq_true rfl, Nat.le_of_ble_eq_true rfl⟩ rfl (Nat.le_of_ble_eq_true rfl) (by decide +kernel) ?_
    refine g_icmp_ge (off := 51) (tgt := 64) (by decide +kernel) (by decide) (fun zc13 => ?_) (fun zc13 => ?_)
    · rw [nI_leI (by have := ha_N hH 0 (by decide); have := mst_le 0; omega) (by have := ha_N hH 0 (by decide); have := mst_le 0; omega)] at zc13
      have ei : i = (sz (habs σ h) 0) := by omega
      rw [ei]
      refine g_blk (pc' := 67) (loc' := [some (vR (2, 0, h)), some (vI b), some (vI (leastL (habs σ h) b (sz (habs σ h) 0))), some (vI (nI (sz (habs σ h) 0))), none]) (st' := [vI (-6 : Int32), vI (leastL (habs σ h) b (sz (habs σ h) 0))]) (σ' := σ) fl1_ok [(64, .iload_n 2), (65, .bipush (-6))] (by decide +kernel) rfl rfl ?_
      refine g_icmp_ne (off := 7) (tgt := 74) (by decide +kernel) (by decide) (fun zc67 => ?_) (fun zc67 => ?_)
      · refine g_blk (pc' := 75) (loc' := [some (vR (2, 0, h)), some (vI b), some (vI (leastL (habs σ h) b (sz (habs σ h) 0))), some (vI (nI (sz (habs σ h) 0))), none]) (st' := [vI (leastL (habs σ h) b (sz (habs σ h) 0))]) (σ' := σ) fl1_ok [(74, .iload_n 2)] (by decide +kernel) rfl rfl ?_
        exact g_iret (by decide +kernel) (by rw [leastS, if_pos zc67]; exact ⟨rfl, rfl⟩)
      · refine g_blk (pc' := 75) (loc' := [some (vR (2, 0, h)), some (vI b), some (vI (leastL (habs σ h) b (sz (habs σ h) 0))), some (vI (nI (sz (habs σ h) 0))), none]) (st' := [vI b]) (σ' := σ) fl1_ok [(70, .iload_n 1), (71, .goto 4)] (by decide +kernel) rfl rfl ?_
        exact g_iret (by decide +kernel) (by rw [leastS, if_neg (not_not_intro zc67)]; exact ⟨rfl, rfl⟩)
    · rw [nI_leI (by have := ha_N hH 0 (by decide); have := mst_le 0; omega) (by have := ha_N hH 0 (by decide); have := mst_le 0; omega)] at zc13
      refine g_blk (pc' := 18) (loc' := [some (vR (2, 0, h)), some (vI b), some (vI (leastL (habs σ h) b i)), some (vI (nI i)), none]) (st' := [vI b, vI (nI i)]) (σ' := σ) fl1_ok [(16, .iload_n 3), (17, .iload_n 1)] (by decide +kernel) rfl rfl ?_
      refine g_icmp_eq (off := 15) (tgt := 33) (by decide +kernel) (by decide) (fun zc18 => ?_) (fun zc18 => ?_)
      · refine g_blk (pc' := 38) (loc' := [some (vR (2, 0, h)), some (vI b), some (vI (leastL (habs σ h) b i)), some (vI (nI i)), some (vI (0 : Int32))]) (st' := [vI (0 : Int32)]) (σ' := σ) fl1_ok [(33, .iconst 0), (34, .istore 4), (36, .iload 4)] (by decide +kernel) rfl rfl ?_
        refine g_if_eq (off := 20) (tgt := 58) (by decide +kernel) (by decide) (fun zc38 => ?_) (fun zc38 => ?_)
        · refine g_blk (pc' := 5) (loc' := [some (vR (2, 0, h)), some (vI b), some (vI (leastL (habs σ h) b i)), some (vI ((nI i) + (1 : Int32))), some (vI (0 : Int32))]) (st' := []) (σ' := σ) fl1_ok [(58, .iinc 3 1), (61, .goto (-56))] (by decide +kernel) rfl rfl ?_
          have hstep : leastL (habs σ h) b (i + 1) = (leastL (habs σ h) b i) := by rw [leastL, freeS, if_pos zc18, if_pos zc38]
          have hih := ih (i + 1) (by omega) (by omega)
          rw [hstep] at hih
          rw [nI_1]
          exact g_sub (loc' := [some (vR (2, 0, h)), some (vI b), some (vI (leastL (habs σ h) b i)), some (vI (nI (i + 1))), none]) ⟨Or.inr rfl, ⟨Or.inr rfl, ⟨Or.inr rfl, ⟨Or.inr rfl, ⟨Or.inl rfl, trivial⟩⟩⟩⟩⟩ hih
        · exact absurd zc38 (by decide)
      · refine g_blk (pc' := 23) (loc' := [some (vR (2, 0, h)), some (vI b), some (vI (leastL (habs σ h) b i)), some (vI (nI i)), none]) (st' := [vI (nI i), vR (2, 0, h)]) (σ' := σ) fl1_ok [(21, .aload_n 0), (22, .iload_n 3)] (by decide +kernel) rfl rfl ?_
        refine g_callVp (2, 0, h) [vI (nI i)] [] vl_RX1_111 mi_X1_isAway (c_X1_isAway l hH (nI i)) rfl rfl rfl rfl ⟨Nat.le_of_ble_eq_true rfl, Nat.le_of_ble_eq_true rfl⟩ rfl (Nat.le_of_ble_eq_true rfl) (by decide +kernel) ?_
        refine g_if_ne (off := 7) (tgt := 33) (by decide +kernel) (by decide) (fun zc26 => ?_) (fun zc26 => ?_)
        · refine g_blk (pc' := 38) (loc' := [some (vR (2, 0, h)), some (vI b), some (vI (leastL (habs σ h) b i)), some (vI (nI i)), some (vI (0 : Int32))]) (st' := [vI (0 : Int32)]) (σ' := σ) fl1_ok [(33, .iconst 0), (34, .istore 4), (36, .iload 4)] (by decide +kernel) rfl rfl ?_
          refine g_if_eq (off := 20) (tgt := 58) (by decide +kernel) (by decide) (fun zc38 => ?_) (fun zc38 => ?_)
          · refine g_blk (pc' := 5) (loc' := [some (vR (2, 0, h)), some (vI b), some (vI (leastL (habs σ h) b i)), some (vI ((nI i) + (1 : Int32))), some (vI (0 : Int32))]) (st' := []) (σ' := σ) fl1_ok [(58, .iinc 3 1), (61, .goto (-56))] (by decide +kernel) rfl rfl ?_
            have hstep : leastL (habs σ h) b (i + 1) = (leastL (habs σ h) b i) := by rw [leastL, freeS, if_neg zc18, if_pos zc26, if_pos zc38]
            have hih := ih (i + 1) (by omega) (by omega)
            rw [hstep] at hih
            rw [nI_1]
            exact g_sub (loc' := [some (vR (2, 0, h)), some (vI b), some (vI (leastL (habs σ h) b i)), some (vI (nI (i + 1))), none]) ⟨Or.inr rfl, ⟨Or.inr rfl, ⟨Or.inr rfl, ⟨Or.inr rfl, ⟨Or.inl rfl, trivial⟩⟩⟩⟩⟩ hih
          · exact absurd zc38 (by decide)
        · refine g_blk (pc' := 38) (loc' := [some (vR (2, 0, h)), some (vI b), some (vI (leastL (habs σ h) b i)), some (vI (nI i)), some (vI (1 : Int32))]) (st' := [vI (1 : Int32)]) (σ' := σ) fl1_ok [(29, .iconst 1), (30, .goto 4), (34, .istore 4), (36, .iload 4)] (by decide +kernel) rfl rfl ?_
          refine g_if_eq (off := 20) (tgt := 58) (by decide +kernel) (by decide) (fun zc38 => ?_) (fun zc38 => ?_)
          · exact absurd zc38 (by decide)
          · refine g_blk (pc' := 44) (loc' := [some (vR (2, 0, h)), some (vI b), some (vI (leastL (habs σ h) b i)), some (vI (nI i)), some (vI (1 : Int32))]) (st' := [vI (-6 : Int32), vI (leastL (habs σ h) b i)]) (σ' := σ) fl1_ok [(41, .iload_n 2), (42, .bipush (-6))] (by decide +kernel) rfl rfl ?_
            refine g_icmp_eq (off := 12) (tgt := 56) (by decide +kernel) (by decide) (fun zc44 => ?_) (fun zc44 => ?_)
            · refine g_blk (pc' := 5) (loc' := [some (vR (2, 0, h)), some (vI b), some (vI (nI i)), some (vI ((nI i) + (1 : Int32))), some (vI (1 : Int32))]) (st' := []) (σ' := σ) fl1_ok [(56, .iload_n 3), (57, .istore_n 2), (58, .iinc 3 1), (61, .goto (-56))] (by decide +kernel) rfl rfl ?_
              have hstep : leastL (habs σ h) b (i + 1) = nI i := by rw [leastL, freeS, if_neg zc18, if_neg (not_not_intro zc26), if_neg zc38, if_pos zc44]
              have hih := ih (i + 1) (by omega) (by omega)
              rw [hstep] at hih
              rw [nI_1]
              exact g_sub (loc' := [some (vR (2, 0, h)), some (vI b), some (vI (nI i)), some (vI (nI (i + 1))), none]) ⟨Or.inr rfl, ⟨Or.inr rfl, ⟨Or.inr rfl, ⟨Or.inr rfl, ⟨Or.inl rfl, trivial⟩⟩⟩⟩⟩ hih
            · refine g_blk (pc' := 50) (loc' := [some (vR (2, 0, h)), some (vI b), some (vI (leastL (habs σ h) b i)), some (vI (nI i)), some (vI (1 : Int32))]) (st' := [vI (leastL (habs σ h) b i), vI (nI i), vR (2, 0, h)]) (σ' := σ) fl1_ok [(47, .aload_n 0), (48, .iload_n 3), (49, .iload_n 2)] (by decide +kernel) rfl rfl ?_
              refine g_callVp (2, 0, h) [vI (nI i), vI (leastL (habs σ h) b i)] [] vl_RX1_114 mi_X1_goesAhead (c_X1_goesAhead l hH (nI i) (leastL (habs σ h) b i)) rfl rfl rfl rfl ⟨Nat.le_of_ble_eq_true rfl, Nat.le_of_ble_eq_true rfl⟩ rfl (Nat.le_of_ble_eq_true rfl) (by decide +kernel) ?_
              refine g_if_eq (off := 5) (tgt := 58) (by decide +kernel) (by decide) (fun zc53 => ?_) (fun zc53 => ?_)
              · refine g_blk (pc' := 5) (loc' := [some (vR (2, 0, h)), some (vI b), some (vI (leastL (habs σ h) b i)), some (vI ((nI i) + (1 : Int32))), some (vI (1 : Int32))]) (st' := []) (σ' := σ) fl1_ok [(58, .iinc 3 1), (61, .goto (-56))] (by decide +kernel) rfl rfl ?_
                have hstep : leastL (habs σ h) b (i + 1) = (leastL (habs σ h) b i) := by rw [leastL, freeS, if_neg zc18, if_neg (not_not_intro zc26), if_neg zc38, if_neg zc44, if_pos zc53]
                have hih := ih (i + 1) (by omega) (by omega)
                rw [hstep] at hih
                rw [nI_1]
                exact g_sub (loc' := [some (vR (2, 0, h)), some (vI b), some (vI (leastL (habs σ h) b i)), some (vI (nI (i + 1))), none]) ⟨Or.inr rfl, ⟨Or.inr rfl, ⟨Or.inr rfl, ⟨Or.inr rfl, ⟨Or.inl rfl, trivial⟩⟩⟩⟩⟩ hih
              · refine g_blk (pc' := 5) (loc' := [some (vR (2, 0, h)), some (vI b), some (vI (nI i)), some (vI ((nI i) + (1 : Int32))), some (vI (1 : Int32))]) (st' := []) (σ' := σ) fl1_ok [(56, .iload_n 3), (57, .istore_n 2), (58, .iinc 3 1), (61, .goto (-56))] (by decide +kernel) rfl rfl ?_
                have hstep : leastL (habs σ h) b (i + 1) = nI i := by rw [leastL, freeS, if_neg zc18, if_neg (not_not_intro zc26), if_neg zc38, if_neg zc44, if_neg zc53]
                have hih := ih (i + 1) (by omega) (by omega)
                rw [hstep] at hih
                rw [nI_1]
                exact g_sub (loc' := [some (vR (2, 0, h)), some (vI b), some (vI (nI i)), some (vI (nI (i + 1))), none]) ⟨Or.inr rfl, ⟨Or.inr rfl, ⟨Or.inr rfl, ⟨Or.inr rfl, ⟨Or.inl rfl, trivial⟩⟩⟩⟩⟩ hih
set_option maxHeartbeats 2000000 in
theorem c_X1_leastLoaded (l : Launch) {σ : Sg} {h : Nat} (hH : HOK σ h) (b : Int32) : Con l 3 yX1_leastLoaded cX1_leastLoaded 5 (some .int) [vR (2, 0, h), vI b] σ (pureP (leastS (habs σ h) b) σ) := by
  refine con_of pn_X1_leastLoaded (Nat.le_of_ble_eq_true rfl) (fun hPK hok => ?_)
  show G l (Rm 3) RX1 cX1_leastLoaded 5 (some .int) _ 0 [some (vR (2, 0, h)), some (vI b), none, none, none] [] σ
  refine g_blk (pc' := 5) (loc' := [some (vR (2, 0, h)), some (vI b), some (vI (-6 : Int32)), some (vI (0 : Int32)), none]) (st' := []) (σ' := σ) fl1_ok [(0, .bipush (-6)), (2, .istore_n 2), (3, .iconst 0), (4, .istore_n 3)] (by decide +kernel) rfl rfl ?_
  refine g_sub (loc' := [some (vR (2, 0, h)), some (vI b), some (vI (-6 : Int32)), some (vI (0 : Int32)), none]) ⟨Or.inr rfl, ⟨Or.inr rfl, ⟨Or.inr rfl, ⟨Or.inr rfl, ⟨Or.inr rfl, trivial⟩⟩⟩⟩⟩ ?_
  exact lp_X1_leastLoaded l hH b (sz (habs σ h) 0 + 1) 0 (Nat.zero_le _) (by omega)
set_option maxHeartbeats 2000000 in
theorem lp_X1_spreadOf (l : Launch) {σ : Sg} {h : Nat} (hH : HOK σ h) (w g lo x : Int32) : ∀ (k i : Nat), i ≤ sz (habs σ h) 0 → sz (habs σ h) 0 < i + k → G l (Rm 2) RX1 cX1_spreadOf 11 (some .int) (pureP (spreadS (habs σ h) w g lo x) σ) 10 [some (vR (2, 0, h)), some (vI w), some (vI g), some (vI lo), some (vI x), some (vI ((spreadL (habs σ h) w g lo x i).1)), some (vI ((spreadL (habs σ h) w g lo x i).2)), some (vI (nI i)), none, none, none] [] σ := by
  intro k
  induction k with
  | zero =>
    intro i  hi hk
    exact absurd hk (by omega)
  | succ k ih =>
    intro i  hi hk
    refine g_blk (pc' := 16) (loc' := [some (vR (2, 0, h)), some (vI w), some (vI g), some (vI lo), some (vI x), some (vI ((spreadL (habs σ h) w g lo x i).1)), some (vI ((spreadL (habs σ h) w g lo x i).2)), some (vI (nI i)), none, none, none]) (st' := [vR (0, 0, h), vI (nI i)]) (σ' := σ) fl1_ok [(10, .iload 7), (12, .aload_n 0), (13, .getfield 16)] (by decide +kernel) rfl rfl ?_
    refine g_callVp (0, 0, h) [] [vI (nI i)] vl_RX1_66 mi_X3_size (ct_size l hH 0 (by decide)) rfl rfl rfl rfl ⟨Nat.le_of_ble_eq_true rfl, Nat.le_of_ble_eq_true rfl⟩ rfl (Nat.le_of_ble_eq_true rfl) (by decide +kernel) ?_
    refine g_icmp_ge (off := 91) (tgt := 110) (by decide +kernel) (by decide) (fun zc19 => ?_) (fun zc19 => ?_)
    · rw [nI_leI (by have := ha_N hH 0 (by decide); have := mst_le 0; omega) (by have := ha_N hH 0 (by decide); have := mst_le 0; omega)] at zc19
      have ei : i = (sz (habs σ h) 0) := by omega
      rw [ei]
      refine g_blk (pc' := 116) (loc' := [some (vR (2, 0, h)), some (vI w), some (vI g), some (vI lo), some (vI x), some (vI ((spreadL (habs σ h) w g lo x (sz (habs σ h) 0)).1)), some (vI ((spreadL (habs σ h) w g lo x (sz (habs σ h) 0)).2)), some (vI (nI (sz (habs σ h) 0))), none, none, none]) (st' := [vI (((spreadL (habs σ h) w g lo x (sz (habs σ h) 0)).2) - ((spreadL (habs σ h) w g lo x (sz (habs σ h) 0)).1)), vI (0 : Int32)]) (σ' := σ) fl1_ok [(110, .iconst 0), (111, .iload 6), (113, .iload 5), (115, .isub)] (by decide +kernel) rfl rfl ?_
      refine g_max jl_RX1_69 ⟨Nat.le_of_ble_eq_true rfl, Nat.le_of_ble_eq_true rfl⟩ (by decide +kernel) ?_
      exact g_iret (by decide +kernel) (by exact ⟨rfl, rfl⟩)
    · rw [nI_leI (by have := ha_N hH 0 (by decide); have := mst_le 0; omega) (by have := ha_N hH 0 (by decide); have := mst_le 0; omega)] at zc19
      refine g_blk (pc' := 23) (loc' := [some (vR (2, 0, h)), some (vI w), some (vI g), some (vI lo), some (vI x), some (vI ((spreadL (habs σ h) w g lo x i).1)), some (vI ((spreadL (habs σ h) w g lo x i).2)), some (vI (nI i)), none, none, none]) (st' := [vI w]) (σ' := σ) fl1_ok [(22, .iload_n 1)] (by decide +kernel) rfl rfl ?_
      refine g_if_eq (off := 12) (tgt := 35) (by decide +kernel) (by decide) (fun zc23 => ?_) (fun zc23 => ?_)
      · refine g_blk (pc' := 42) (loc' := [some (vR (2, 0, h)), some (vI w), some (vI g), some (vI lo), some (vI x), some (vI ((spreadL (habs σ h) w g lo x i).1)), some (vI ((spreadL (habs σ h) w g lo x i).2)), some (vI (nI i)), none, none, none]) (st' := [vI (3 : Int32), vI (nI i), vR (0, 0, h)]) (σ' := σ) fl1_ok [(35, .aload_n 0), (36, .getfield 16), (39, .iload 7), (41, .iconst 3)] (by decide +kernel) rfl rfl ?_
        refine g_callVp (0, 0, h) [vI (nI i), vI (3 : Int32)] [] vl_RX1_58 mi_X3_cell (ct_cell l hH 0 (by decide) (nI i) (3 : Int32)) rfl rfl rfl rfl ⟨Nat.le_of_ble_eq_true rfl, Nat.le_of_ble_eq_true rfl⟩ rfl (Nat.le_of_ble_eq_true rfl) (by decide +kernel) ?_
        refine g_blk (pc' := 50) (loc' := [some (vR (2, 0, h)), some (vI w), some (vI g), some (vI lo), some (vI x), some (vI ((spreadL (habs σ h) w g lo x i).1)), some (vI ((spreadL (habs σ h) w g lo x i).2)), some (vI (nI i)), some (vI (cl (habs σ h) 0 (nI i) (3 : Int32))), none, none]) (st' := [vI g, vI (nI i)]) (σ' := σ) fl1_ok [(45, .istore 8), (47, .iload 7), (49, .iload_n 2)] (by decide +kernel) rfl rfl ?_
        refine g_icmp_ne (off := 8) (tgt := 58) (by decide +kernel) (by decide) (fun zc50 => ?_) (fun zc50 => ?_)
        · refine g_blk (pc' := 61) (loc' := [some (vR (2, 0, h)), some (vI w), some (vI g), some (vI lo), some (vI x), some (vI ((spreadL (habs σ h) w g lo x i).1)), some (vI ((spreadL (habs σ h) w g lo x i).2)), some (vI (nI i)), some (vI (cl (habs σ h) 0 (nI i) (3 : Int32))), none, none]) (st' := [vI lo, vI (nI i)]) (σ' := σ) fl1_ok [(58, .iload 7), (60, .iload_n 3)] (by decide +kernel) rfl rfl ?_
          refine g_icmp_ne (off := 9) (tgt := 70) (by decide +kernel) (by decide) (fun zc61 => ?_) (fun zc61 => ?_)
          · refine g_blk (pc' := 81) (loc' := [some (vR (2, 0, h)), some (vI w), some (vI g), some (vI lo), some (vI x), some (vI ((spreadL (habs σ h) w g lo x i).1)), some (vI ((spreadL (habs σ h) w g lo x i).2)), some (vI (nI i)), some (vI (cl (habs σ h) 0 (nI i) (3 : Int32))), some (vI (0 : Int32)), none]) (st' := [vI ((cl (habs σ h) 0 (nI i) (3 : Int32)) + (0 : Int32)), vI (nI i), vR (2, 0, h)]) (σ' := σ) fl1_ok [(70, .iconst 0), (71, .istore 9), (73, .aload_n 0), (74, .iload 7), (76, .iload 8), (78, .iload 9), (80, .iadd)] (by decide +kernel) rfl rfl ?_
            refine g_callVp (2, 0, h) [vI (nI i), vI ((cl (habs σ h) 0 (nI i) (3 : Int32)) + (0 : Int32))] [] vl_RX1_177 mi_X1_rateOf (c_X1_rateOf l hH (nI i) ((cl (habs σ h) 0 (nI i) (3 : Int32)) + (0 : Int32))) rfl rfl rfl rfl ⟨Nat.le_of_ble_eq_true rfl, Nat.le_of_ble_eq_true rfl⟩ rfl (Nat.le_of_ble_eq_true rfl) (by decide +kernel) ?_
            refine g_blk (pc' := 90) (loc' := [some (vR (2, 0, h)), some (vI w), some (vI g), some (vI lo), some (vI x), some (vI ((spreadL (habs σ h) w g lo x i).1)), some (vI ((spreadL (habs σ h) w g lo x i).2)), some (vI (nI i)), some (vI (cl (habs σ h) 0 (nI i) (3 : Int32))), some (vI (0 : Int32)), some (vI (rateS (habs σ h) (nI i) ((cl (habs σ h) 0 (nI i) (3 : Int32)) + (0 : Int32))))]) (st' := [vI (rateS (habs σ h) (nI i) ((cl (habs σ h) 0 (nI i) (3 : Int32)) + (0 : Int32))), vI ((spreadL (habs σ h) w g lo x i).1)]) (σ' := σ) fl1_ok [(84, .istore 10), (86, .iload 5), (88, .iload 10)] (by decide +kernel) rfl rfl ?_
            refine g_min jl_RX1_146 ⟨Nat.le_of_ble_eq_true rfl, Nat.le_of_ble_eq_true rfl⟩ (by decide +kernel) ?_
            refine g_blk (pc' := 99) (loc' := [some (vR (2, 0, h)), some (vI w), some (vI g), some (vI lo), some (vI x), some (vI (if (rateS (habs σ h) (nI i) ((cl (habs σ h) 0 (nI i) (3 : Int32)) + (0 : Int32))) < ((spreadL (habs σ h) w g lo x i).1) then (rateS (habs σ h) (nI i) ((cl (habs σ h) 0 (nI i) (3 : Int32)) + (0 : Int32))) else ((spreadL (habs σ h) w g lo x i).1))), some (vI ((spreadL (habs σ h) w g lo x i).2)), some (vI (nI i)), some (vI (cl (habs σ h) 0 (nI i) (3 : Int32))), some (vI (0 : Int32)), some (vI (rateS (habs σ h) (nI i) ((cl (habs σ h) 0 (nI i) (3 : Int32)) + (0 : Int32))))]) (st' := [vI (rateS (habs σ h) (nI i) ((cl (habs σ h) 0 (nI i) (3 : Int32)) + (0 : Int32))), vI ((spreadL (habs σ h) w g lo x i).2)]) (σ' := σ) fl1_ok [(93, .istore 5), (95, .iload 6), (97, .iload 10)] (by decide +kernel) rfl rfl ?_
            refine g_max jl_RX1_69 ⟨Nat.le_of_ble_eq_true rfl, Nat.le_of_ble_eq_true rfl⟩ (by decide +kernel) ?_
            refine g_blk (pc' := 10) (loc' := [some (vR (2, 0, h)), some (vI w), some (vI g), some (vI lo), some (vI x), some (vI (if (rateS (habs σ h) (nI i) ((cl (habs σ h) 0 (nI i) (3 : Int32)) + (0 : Int32))) < ((spreadL (habs σ h) w g lo x i).1) then (rateS (habs σ h) (nI i) ((cl (habs σ h) 0 (nI i) (3 : Int32)) + (0 : Int32))) else ((spreadL (habs σ h) w g lo x i).1))), some (vI (if ((spreadL (habs σ h) w g lo x i).2) < (rateS (habs σ h) (nI i) ((cl (habs σ h) 0 (nI i) (3 : Int32)) + (0 : Int32))) then (rateS (habs σ h) (nI i) ((cl (habs σ h) 0 (nI i) (3 : Int32)) + (0 : Int32))) else ((spreadL (habs σ h) w g lo x i).2))), some (vI ((nI i) + (1 : Int32))), some (vI (cl (habs σ h) 0 (nI i) (3 : Int32))), some (vI (0 : Int32)), some (vI (rateS (habs σ h) (nI i) ((cl (habs σ h) 0 (nI i) (3 : Int32)) + (0 : Int32))))]) (st' := []) (σ' := σ) fl1_ok [(102, .istore 6), (104, .iinc 7 1), (107, .goto (-97))] (by decide +kernel) rfl rfl ?_
            have hstep : spreadL (habs σ h) w g lo x (i + 1) = (if (rateS (habs σ h) (nI i) ((cl (habs σ h) 0 (nI i) (3 : Int32)) + (0 : Int32))) < ((spreadL (habs σ h) w g lo x i).1) then (rateS (habs σ h) (nI i) ((cl (habs σ h) 0 (nI i) (3 : Int32)) + (0 : Int32))) else ((spreadL (habs σ h) w g lo x i).1), if ((spreadL (habs σ h) w g lo x i).2) < (rateS (habs σ h) (nI i) ((cl (habs σ h) 0 (nI i) (3 : Int32)) + (0 : Int32))) then (rateS (habs σ h) (nI i) ((cl (habs σ h) 0 (nI i) (3 : Int32)) + (0 : Int32))) else ((spreadL (habs σ h) w g lo x i).2)) := by rw [spreadL, amountS, if_pos zc23, if_pos zc50, if_pos zc61]; rfl
            have hih := ih (i + 1) (by omega) (by omega)
            rw [hstep] at hih
            rw [nI_1]
            exact g_sub (loc' := [some (vR (2, 0, h)), some (vI w), some (vI g), some (vI lo), some (vI x), some (vI (if (rateS (habs σ h) (nI i) ((cl (habs σ h) 0 (nI i) (3 : Int32)) + (0 : Int32))) < ((spreadL (habs σ h) w g lo x i).1) then (rateS (habs σ h) (nI i) ((cl (habs σ h) 0 (nI i) (3 : Int32)) + (0 : Int32))) else ((spreadL (habs σ h) w g lo x i).1))), some (vI (if ((spreadL (habs σ h) w g lo x i).2) < (rateS (habs σ h) (nI i) ((cl (habs σ h) 0 (nI i) (3 : Int32)) + (0 : Int32))) then (rateS (habs σ h) (nI i) ((cl (habs σ h) 0 (nI i) (3 : Int32)) + (0 : Int32))) else ((spreadL (habs σ h) w g lo x i).2))), some (vI (nI (i + 1))), none, none, none]) ⟨Or.inr rfl, ⟨Or.inr rfl, ⟨Or.inr rfl, ⟨Or.inr rfl, ⟨Or.inr rfl, ⟨Or.inr rfl, ⟨Or.inr rfl, ⟨Or.inr rfl, ⟨Or.inl rfl, ⟨Or.inl rfl, ⟨Or.inl rfl, trivial⟩⟩⟩⟩⟩⟩⟩⟩⟩⟩⟩ hih
          · refine g_blk (pc' := 81) (loc' := [some (vR (2, 0, h)), some (vI w), some (vI g), some (vI lo), some (vI x), some (vI ((spreadL (habs σ h) w g lo x i).1)), some (vI ((spreadL (habs σ h) w g lo x i).2)), some (vI (nI i)), some (vI (cl (habs σ h) 0 (nI i) (3 : Int32))), some (vI (-x)), none]) (st' := [vI ((cl (habs σ h) 0 (nI i) (3 : Int32)) + (-x)), vI (nI i), vR (2, 0, h)]) (σ' := σ) fl1_ok [(64, .iload 4), (66, .ineg), (67, .goto 4), (71, .istore 9), (73, .aload_n 0), (74, .iload 7), (76, .iload 8), (78, .iload 9), (80, .iadd)] (by decide +kernel) rfl rfl ?_
            refine g_callVp (2, 0, h) [vI (nI i), vI ((cl (habs σ h) 0 (nI i) (3 : Int32)) + (-x))] [] vl_RX1_177 mi_X1_rateOf (c_X1_rateOf l hH (nI i) ((cl (habs σ h) 0 (nI i) (3 : Int32)) + (-x))) rfl rfl rfl rfl ⟨Nat.le_of_ble_eq_true rfl, Nat.le_of_ble_eq_true rfl⟩ rfl (Nat.le_of_ble_eq_true rfl) (by decide +kernel) ?_
            refine g_blk (pc' := 90) (loc' := [some (vR (2, 0, h)), some (vI w), some (vI g), some (vI lo), some (vI x), some (vI ((spreadL (habs σ h) w g lo x i).1)), some (vI ((spreadL (habs σ h) w g lo x i).2)), some (vI (nI i)), some (vI (cl (habs σ h) 0 (nI i) (3 : Int32))), some (vI (-x)), some (vI (rateS (habs σ h) (nI i) ((cl (habs σ h) 0 (nI i) (3 : Int32)) + (-x))))]) (st' := [vI (rateS (habs σ h) (nI i) ((cl (habs σ h) 0 (nI i) (3 : Int32)) + (-x))), vI ((spreadL (habs σ h) w g lo x i).1)]) (σ' := σ) fl1_ok [(84, .istore 10), (86, .iload 5), (88, .iload 10)] (by decide +kernel) rfl rfl ?_
            refine g_min jl_RX1_146 ⟨Nat.le_of_ble_eq_true rfl, Nat.le_of_ble_eq_true rfl⟩ (by decide +kernel) ?_
            refine g_blk (pc' := 99) (loc' := [some (vR (2, 0, h)), some (vI w), some (vI g), some (vI lo), some (vI x), some (vI (if (rateS (habs σ h) (nI i) ((cl (habs σ h) 0 (nI i) (3 : Int32)) + (-x))) < ((spreadL (habs σ h) w g lo x i).1) then (rateS (habs σ h) (nI i) ((cl (habs σ h) 0 (nI i) (3 : Int32)) + (-x))) else ((spreadL (habs σ h) w g lo x i).1))), some (vI ((spreadL (habs σ h) w g lo x i).2)), some (vI (nI i)), some (vI (cl (habs σ h) 0 (nI i) (3 : Int32))), some (vI (-x)), some (vI (rateS (habs σ h) (nI i) ((cl (habs σ h) 0 (nI i) (3 : Int32)) + (-x))))]) (st' := [vI (rateS (habs σ h) (nI i) ((cl (habs σ h) 0 (nI i) (3 : Int32)) + (-x))), vI ((spreadL (habs σ h) w g lo x i).2)]) (σ' := σ) fl1_ok [(93, .istore 5), (95, .iload 6), (97, .iload 10)] (by decide +kernel) rfl rfl ?_
            refine g_max jl_RX1_69 ⟨Nat.le_of_ble_eq_true rfl, Nat.le_of_ble_eq_true rfl⟩ (by decide +kernel) ?_
            refine g_blk (pc' := 10) (loc' := [some (vR (2, 0, h)), some (vI w), some (vI g), some (vI lo), some (vI x), some (vI (if (rateS (habs σ h) (nI i) ((cl (habs σ h) 0 (nI i) (3 : Int32)) + (-x))) < ((spreadL (habs σ h) w g lo x i).1) then (rateS (habs σ h) (nI i) ((cl (habs σ h) 0 (nI i) (3 : Int32)) + (-x))) else ((spreadL (habs σ h) w g lo x i).1))), some (vI (if ((spreadL (habs σ h) w g lo x i).2) < (rateS (habs σ h) (nI i) ((cl (habs σ h) 0 (nI i) (3 : Int32)) + (-x))) then (rateS (habs σ h) (nI i) ((cl (habs σ h) 0 (nI i) (3 : Int32)) + (-x))) else ((spreadL (habs σ h) w g lo x i).2))), some (vI ((nI i) + (1 : Int32))), some (vI (cl (habs σ h) 0 (nI i) (3 : Int32))), some (vI (-x)), some (vI (rateS (habs σ h) (nI i) ((cl (habs σ h) 0 (nI i) (3 : Int32)) + (-x))))]) (st' := []) (σ' := σ) fl1_ok [(102, .istore 6), (104, .iinc 7 1), (107, .goto (-97))] (by decide +kernel) rfl rfl ?_
            have hstep : spreadL (habs σ h) w g lo x (i + 1) = (if (rateS (habs σ h) (nI i) ((cl (habs σ h) 0 (nI i) (3 : Int32)) + (-x))) < ((spreadL (habs σ h) w g lo x i).1) then (rateS (habs σ h) (nI i) ((cl (habs σ h) 0 (nI i) (3 : Int32)) + (-x))) else ((spreadL (habs σ h) w g lo x i).1), if ((spreadL (habs σ h) w g lo x i).2) < (rateS (habs σ h) (nI i) ((cl (habs σ h) 0 (nI i) (3 : Int32)) + (-x))) then (rateS (habs σ h) (nI i) ((cl (habs σ h) 0 (nI i) (3 : Int32)) + (-x))) else ((spreadL (habs σ h) w g lo x i).2)) := by rw [spreadL, amountS, if_pos zc23, if_pos zc50, if_neg (not_not_intro zc61)]; rfl
            have hih := ih (i + 1) (by omega) (by omega)
            rw [hstep] at hih
            rw [nI_1]
            exact g_sub (loc' := [some (vR (2, 0, h)), some (vI w), some (vI g), some (vI lo), some (vI x), some (vI (if (rateS (habs σ h) (nI i) ((cl (habs σ h) 0 (nI i) (3 : Int32)) + (-x))) < ((spreadL (habs σ h) w g lo x i).1) then (rateS (habs σ h) (nI i) ((cl (habs σ h) 0 (nI i) (3 : Int32)) + (-x))) else ((spreadL (habs σ h) w g lo x i).1))), some (vI (if ((spreadL (habs σ h) w g lo x i).2) < (rateS (habs σ h) (nI i) ((cl (habs σ h) 0 (nI i) (3 : Int32)) + (-x))) then (rateS (habs σ h) (nI i) ((cl (habs σ h) 0 (nI i) (3 : Int32)) + (-x))) else ((spreadL (habs σ h) w g lo x i).2))), some (vI (nI (i + 1))), none, none, none]) ⟨Or.inr rfl, ⟨Or.inr rfl, ⟨Or.inr rfl, ⟨Or.inr rfl, ⟨Or.inr rfl, ⟨Or.inr rfl, ⟨Or.inr rfl, ⟨Or.inr rfl, ⟨Or.inl rfl, ⟨Or.inl rfl, ⟨Or.inl rfl, trivial⟩⟩⟩⟩⟩⟩⟩⟩⟩⟩⟩ hih
        · refine g_blk (pc' := 81) (loc' := [some (vR (2, 0, h)), some (vI w), some (vI g), some (vI lo), some (vI x), some (vI ((spreadL (habs σ h) w g lo x i).1)), some (vI ((spreadL (habs σ h) w g lo x i).2)), some (vI (nI i)), some (vI (cl (habs σ h) 0 (nI i) (3 : Int32))), some (vI x), none]) (st' := [vI ((cl (habs σ h) 0 (nI i) (3 : Int32)) + x), vI (nI i), vR (2, 0, h)]) (σ' := σ) fl1_ok [(53, .iload 4), (55, .goto 16), (71, .istore 9), (73, .aload_n 0), (74, .iload 7), (76, .iload 8), (78, .iload 9), (80, .iadd)] (by decide +kernel) rfl rfl ?_
          refine g_callVp (2, 0, h) [vI (nI i), vI ((cl (habs σ h) 0 (nI i) (3 : Int32)) + x)] [] vl_RX1_177 mi_X1_rateOf (c_X1_rateOf l hH (nI i) ((cl (habs σ h) 0 (nI i) (3 : Int32)) + x)) rfl rfl rfl rfl ⟨Nat.le_of_ble_eq_true rfl, Nat.le_of_ble_eq_true rfl⟩ rfl (Nat.le_of_ble_eq_true rfl) (by decide +kernel) ?_
          refine g_blk (pc' := 90) (loc' := [some (vR (2, 0, h)), some (vI w), some (vI g), some (vI lo), some (vI x), some (vI ((spreadL (habs σ h) w g lo x i).1)), some (vI ((spreadL (habs σ h) w g lo x i).2)), some (vI (nI i)), some (vI (cl (habs σ h) 0 (nI i) (3 : Int32))), some (vI x), some (vI (rateS (habs σ h) (nI i) ((cl (habs σ h) 0 (nI i) (3 : Int32)) + x)))]) (st' := [vI (rateS (habs σ h) (nI i) ((cl (habs σ h) 0 (nI i) (3 : Int32)) + x)), vI ((spreadL (habs σ h) w g lo x i).1)]) (σ' := σ) fl1_ok [(84, .istore 10), (86, .iload 5), (88, .iload 10)] (by decide +kernel) rfl rfl ?_
          refine g_min jl_RX1_146 ⟨Nat.le_of_ble_eq_true rfl, Nat.le_of_ble_eq_true rfl⟩ (by decide +kernel) ?_
          refine g_blk (pc' := 99) (loc' := [some (vR (2, 0, h)), some (vI w), some (vI g), some (vI lo), some (vI x), some (vI (if (rateS (habs σ h) (nI i) ((cl (habs σ h) 0 (nI i) (3 : Int32)) + x)) < ((spreadL (habs σ h) w g lo x i).1) then (rateS (habs σ h) (nI i) ((cl (habs σ h) 0 (nI i) (3 : Int32)) + x)) else ((spreadL (habs σ h) w g lo x i).1))), some (vI ((spreadL (habs σ h) w g lo x i).2)), some (vI (nI i)), some (vI (cl (habs σ h) 0 (nI i) (3 : Int32))), some (vI x), some (vI (rateS (habs σ h) (nI i) ((cl (habs σ h) 0 (nI i) (3 : Int32)) + x)))]) (st' := [vI (rateS (habs σ h) (nI i) ((cl (habs σ h) 0 (nI i) (3 : Int32)) + x)), vI ((spreadL (habs σ h) w g lo x i).2)]) (σ' := σ) fl1_ok [(93, .istore 5), (95, .iload 6), (97, .iload 10)] (by decide +kernel) rfl rfl ?_
          refine g_max jl_RX1_69 ⟨Nat.le_of_ble_eq_true rfl, Nat.le_of_ble_eq_true rfl⟩ (by decide +kernel) ?_
          refine g_blk (pc' := 10) (loc' := [some (vR (2, 0, h)), some (vI w), some (vI g), some (vI lo), some (vI x), some (vI (if (rateS (habs σ h) (nI i) ((cl (habs σ h) 0 (nI i) (3 : Int32)) + x)) < ((spreadL (habs σ h) w g lo x i).1) then (rateS (habs σ h) (nI i) ((cl (habs σ h) 0 (nI i) (3 : Int32)) + x)) else ((spreadL (habs σ h) w g lo x i).1))), some (vI (if ((spreadL (habs σ h) w g lo x i).2) < (rateS (habs σ h) (nI i) ((cl (habs σ h) 0 (nI i) (3 : Int32)) + x)) then (rateS (habs σ h) (nI i) ((cl (habs σ h) 0 (nI i) (3 : Int32)) + x)) else ((spreadL (habs σ h) w g lo x i).2))), some (vI ((nI i) + (1 : Int32))), some (vI (cl (habs σ h) 0 (nI i) (3 : Int32))), some (vI x), some (vI (rateS (habs σ h) (nI i) ((cl (habs σ h) 0 (nI i) (3 : Int32)) + x)))]) (st' := []) (σ' := σ) fl1_ok [(102, .istore 6), (104, .iinc 7 1), (107, .goto (-97))] (by decide +kernel) rfl rfl ?_
          have hstep : spreadL (habs σ h) w g lo x (i + 1) = (if (rateS (habs σ h) (nI i) ((cl (habs σ h) 0 (nI i) (3 : Int32)) + x)) < ((spreadL (habs σ h) w g lo x i).1) then (rateS (habs σ h) (nI i) ((cl (habs σ h) 0 (nI i) (3 : Int32)) + x)) else ((spreadL (habs σ h) w g lo x i).1), if ((spreadL (habs σ h) w g lo x i).2) < (rateS (habs σ h) (nI i) ((cl (habs σ h) 0 (nI i) (3 : Int32)) + x)) then (rateS (habs σ h) (nI i) ((cl (habs σ h) 0 (nI i) (3 : Int32)) + x)) else ((spreadL (habs σ h) w g lo x i).2)) := by rw [spreadL, amountS, if_pos zc23, if_neg (not_not_intro zc50)]; rfl
          have hih := ih (i + 1) (by omega) (by omega)
          rw [hstep] at hih
          rw [nI_1]
          exact g_sub (loc' := [some (vR (2, 0, h)), some (vI w), some (vI g), some (vI lo), some (vI x), some (vI (if (rateS (habs σ h) (nI i) ((cl (habs σ h) 0 (nI i) (3 : Int32)) + x)) < ((spreadL (habs σ h) w g lo x i).1) then (rateS (habs σ h) (nI i) ((cl (habs σ h) 0 (nI i) (3 : Int32)) + x)) else ((spreadL (habs σ h) w g lo x i).1))), some (vI (if ((spreadL (habs σ h) w g lo x i).2) < (rateS (habs σ h) (nI i) ((cl (habs σ h) 0 (nI i) (3 : Int32)) + x)) then (rateS (habs σ h) (nI i) ((cl (habs σ h) 0 (nI i) (3 : Int32)) + x)) else ((spreadL (habs σ h) w g lo x i).2))), some (vI (nI (i + 1))), none, none, none]) ⟨Or.inr rfl, ⟨Or.inr rfl, ⟨Or.inr rfl, ⟨Or.inr rfl, ⟨Or.inr rfl, ⟨Or.inr rfl, ⟨Or.inr rfl, ⟨Or.inr rfl, ⟨Or.inl rfl, ⟨Or.inl rfl, ⟨Or.inl rfl, trivial⟩⟩⟩⟩⟩⟩⟩⟩⟩⟩⟩ hih
      · refine g_blk (pc' := 29) (loc' := [some (vR (2, 0, h)), some (vI w), some (vI g), some (vI lo), some (vI x), some (vI ((spreadL (habs σ h) w g lo x i).1)), some (vI ((spreadL (habs σ h) w g lo x i).2)), some (vI (nI i)), none, none, none]) (st' := [vI (nI i), vR (2, 0, h)]) (σ' := σ) fl1_ok [(26, .aload_n 0), (27, .iload 7)] (by decide +kernel) rfl rfl ?_
        refine g_callVp (2, 0, h) [vI (nI i)] [] vl_RX1_118 mi_X1_loadOf (c_X1_loadOf l hH (nI i)) rfl rfl rfl rfl ⟨Nat.le_of_ble_eq_true rfl, Nat.le_of_ble_eq_true rfl⟩ rfl (Nat.le_of_ble_eq_true rfl) (by decide +kernel) ?_
        refine g_blk (pc' := 50) (loc' := [some (vR (2, 0, h)), some (vI w), some (vI g), some (vI lo), some (vI x), some (vI ((spreadL (habs σ h) w g lo x i).1)), some (vI ((spreadL (habs σ h) w g lo x i).2)), some (vI (nI i)), some (vI (loadS (habs σ h) (nI i))), none, none]) (st' := [vI g, vI (nI i)]) (σ' := σ) fl1_ok [(32, .goto 13), (45, .istore 8), (47, .iload 7), (49, .iload_n 2)] (by decide +kernel) rfl rfl ?_
        refine g_icmp_ne (off := 8) (tgt := 58) (by decide +kernel) (by decide) (fun zc50 => ?_) (fun zc50 => ?_)
        · refine g_blk (pc' := 61) (loc' := [some (vR (2, 0, h)), some (vI w), some (vI g), some (vI lo), some (vI x), some (vI ((spreadL (habs σ h) w g lo x i).1)), some (vI ((spreadL (habs σ h) w g lo x i).2)), some (vI (nI i)), some (vI (loadS (habs σ h) (nI i))), none, none]) (st' := [vI lo, vI (nI i)]) (σ' := σ) fl1_ok [(58, .iload 7), (60, .iload_n 3)] (by decide +kernel) rfl rfl ?_
          refine g_icmp_ne (off := 9) (tgt := 70) (by decide +kernel) (by decide) (fun zc61 => ?_) (fun zc61 => ?_)
          · refine g_blk (pc' := 81) (loc' := [some (vR (2, 0, h)), some (vI w), some (vI g), some (vI lo), some (vI x), some (vI ((spreadL (habs σ h) w g lo x i).1)), some (vI ((spreadL (habs σ h) w g lo x i).2)), some (vI (nI i)), some (vI (loadS (habs σ h) (nI i))), some (vI (0 : Int32)), none]) (st' := [vI ((loadS (habs σ h) (nI i)) + (0 : Int32)), vI (nI i), vR (2, 0, h)]) (σ' := σ) fl1_ok [(70, .iconst 0), (71, .istore 9), (73, .aload_n 0), (74, .iload 7), (76, .iload 8), (78, .iload 9), (80, .iadd)] (by decide +kernel) rfl rfl ?_
            refine g_callVp (2, 0, h) [vI (nI i), vI ((loadS (habs σ h) (nI i)) + (0 : Int32))] [] vl_RX1_177 mi_X1_rateOf (c_X1_rateOf l hH (nI i) ((loadS (habs σ h) (nI i)) + (0 : Int32))) rfl rfl rfl rfl ⟨Nat.le_of_ble_eq_true rfl, Nat.le_of_ble_eq_true rfl⟩ rfl (Nat.le_of_ble_eq_true rfl) (by decide +kernel) ?_
            refine g_blk (pc' := 90) (loc' := [some (vR (2, 0, h)), some (vI w), some (vI g), some (vI lo), some (vI x), some (vI ((spreadL (habs σ h) w g lo x i).1)), some (vI ((spreadL (habs σ h) w g lo x i).2)), some (vI (nI i)), some (vI (loadS (habs σ h) (nI i))), some (vI (0 : Int32)), some (vI (rateS (habs σ h) (nI i) ((loadS (habs σ h) (nI i)) + (0 : Int32))))]) (st' := [vI (rateS (habs σ h) (nI i) ((loadS (habs σ h) (nI i)) + (0 : Int32))), vI ((spreadL (habs σ h) w g lo x i).1)]) (σ' := σ) fl1_ok [(84, .istore 10), (86, .iload 5), (88, .iload 10)] (by decide +kernel) rfl rfl ?_
            refine g_min jl_RX1_146 ⟨Nat.le_of_ble_eq_true rfl, Nat.le_of_ble_eq_true rfl⟩ (by decide +kernel) ?_
            refine g_blk (pc' := 99) (loc' := [some (vR (2, 0, h)), some (vI w), some (vI g), some (vI lo), some (vI x), some (vI (if (rateS (habs σ h) (nI i) ((loadS (habs σ h) (nI i)) + (0 : Int32))) < ((spreadL (habs σ h) w g lo x i).1) then (rateS (habs σ h) (nI i) ((loadS (habs σ h) (nI i)) + (0 : Int32))) else ((spreadL (habs σ h) w g lo x i).1))), some (vI ((spreadL (habs σ h) w g lo x i).2)), some (vI (nI i)), some (vI (loadS (habs σ h) (nI i))), some (vI (0 : Int32)), some (vI (rateS (habs σ h) (nI i) ((loadS (habs σ h) (nI i)) + (0 : Int32))))]) (st' := [vI (rateS (habs σ h) (nI i) ((loadS (habs σ h) (nI i)) + (0 : Int32))), vI ((spreadL (habs σ h) w g lo x i).2)]) (σ' := σ) fl1_ok [(93, .istore 5), (95, .iload 6), (97, .iload 10)] (by decide +kernel) rfl rfl ?_
            refine g_max jl_RX1_69 ⟨Nat.le_of_ble_eq_true rfl, Nat.le_of_ble_eq_true rfl⟩ (by decide +kernel) ?_
            refine g_blk (pc' := 10) (loc' := [some (vR (2, 0, h)), some (vI w), some (vI g), some (vI lo), some (vI x), some (vI (if (rateS (habs σ h) (nI i) ((loadS (habs σ h) (nI i)) + (0 : Int32))) < ((spreadL (habs σ h) w g lo x i).1) then (rateS (habs σ h) (nI i) ((loadS (habs σ h) (nI i)) + (0 : Int32))) else ((spreadL (habs σ h) w g lo x i).1))), some (vI (if ((spreadL (habs σ h) w g lo x i).2) < (rateS (habs σ h) (nI i) ((loadS (habs σ h) (nI i)) + (0 : Int32))) then (rateS (habs σ h) (nI i) ((loadS (habs σ h) (nI i)) + (0 : Int32))) else ((spreadL (habs σ h) w g lo x i).2))), some (vI ((nI i) + (1 : Int32))), some (vI (loadS (habs σ h) (nI i))), some (vI (0 : Int32)), some (vI (rateS (habs σ h) (nI i) ((loadS (habs σ h) (nI i)) + (0 : Int32))))]) (st' := []) (σ' := σ) fl1_ok [(102, .istore 6), (104, .iinc 7 1), (107, .goto (-97))] (by decide +kernel) rfl rfl ?_
            have hstep : spreadL (habs σ h) w g lo x (i + 1) = (if (rateS (habs σ h) (nI i) ((loadS (habs σ h) (nI i)) + (0 : Int32))) < ((spreadL (habs σ h) w g lo x i).1) then (rateS (habs σ h) (nI i) ((loadS (habs σ h) (nI i)) + (0 : Int32))) else ((spreadL (habs σ h) w g lo x i).1), if ((spreadL (habs σ h) w g lo x i).2) < (rateS (habs σ h) (nI i) ((loadS (habs σ h) (nI i)) + (0 : Int32))) then (rateS (habs σ h) (nI i) ((loadS (habs σ h) (nI i)) + (0 : Int32))) else ((spreadL (habs σ h) w g lo x i).2)) := by rw [spreadL, amountS, if_neg zc23, if_pos zc50, if_pos zc61]; rfl
            have hih := ih (i + 1) (by omega) (by omega)
            rw [hstep] at hih
            rw [nI_1]
            exact g_sub (loc' := [some (vR (2, 0, h)), some (vI w), some (vI g), some (vI lo), some (vI x), some (vI (if (rateS (habs σ h) (nI i) ((loadS (habs σ h) (nI i)) + (0 : Int32))) < ((spreadL (habs σ h) w g lo x i).1) then (rateS (habs σ h) (nI i) ((loadS (habs σ h) (nI i)) + (0 : Int32))) else ((spreadL (habs σ h) w g lo x i).1))), some (vI (if ((spreadL (habs σ h) w g lo x i).2) < (rateS (habs σ h) (nI i) ((loadS (habs σ h) (nI i)) + (0 : Int32))) then (rateS (habs σ h) (nI i) ((loadS (habs σ h) (nI i)) + (0 : Int32))) else ((spreadL (habs σ h) w g lo x i).2))), some (vI (nI (i + 1))), none, none, none]) ⟨Or.inr rfl, ⟨Or.inr rfl, ⟨Or.inr rfl, ⟨Or.inr rfl, ⟨Or.inr rfl, ⟨Or.inr rfl, ⟨Or.inr rfl, ⟨Or.inr rfl, ⟨Or.inl rfl, ⟨Or.inl rfl, ⟨Or.inl rfl, trivial⟩⟩⟩⟩⟩⟩⟩⟩⟩⟩⟩ hih
          · refine g_blk (pc' := 81) (loc' := [some (vR (2, 0, h)), some (vI w), some (vI g), some (vI lo), some (vI x), some (vI ((spreadL (habs σ h) w g lo x i).1)), some (vI ((spreadL (habs σ h) w g lo x i).2)), some (vI (nI i)), some (vI (loadS (habs σ h) (nI i))), some (vI (-x)), none]) (st' := [vI ((loadS (habs σ h) (nI i)) + (-x)), vI (nI i), vR (2, 0, h)]) (σ' := σ) fl1_ok [(64, .iload 4), (66, .ineg), (67, .goto 4), (71, .istore 9), (73, .aload_n 0), (74, .iload 7), (76, .iload 8), (78, .iload 9), (80, .iadd)] (by decide +kernel) rfl rfl ?_
            refine g_callVp (2, 0, h) [vI (nI i), vI ((loadS (habs σ h) (nI i)) + (-x))] [] vl_RX1_177 mi_X1_rateOf (c_X1_rateOf l hH (nI i) ((loadS (habs σ h) (nI i)) + (-x))) rfl rfl rfl rfl ⟨Nat.le_of_ble_eq_true rfl, Nat.le_of_ble_eq_true rfl⟩ rfl (Nat.le_of_ble_eq_true rfl) (by decide +kernel) ?_
            refine g_blk (pc' := 90) (loc' := [some (vR (2, 0, h)), some (vI w), some (vI g), some (vI lo), some (vI x), some (vI ((spreadL (habs σ h) w g lo x i).1)), some (vI ((spreadL (habs σ h) w g lo x i).2)), some (vI (nI i)), some (vI (loadS (habs σ h) (nI i))), some (vI (-x)), some (vI (rateS (habs σ h) (nI i) ((loadS (habs σ h) (nI i)) + (-x))))]) (st' := [vI (rateS (habs σ h) (nI i) ((loadS (habs σ h) (nI i)) + (-x))), vI ((spreadL (habs σ h) w g lo x i).1)]) (σ' := σ) fl1_ok [(84, .istore 10), (86, .iload 5), (88, .iload 10)] (by decide +kernel) rfl rfl ?_
            refine g_min jl_RX1_146 ⟨Nat.le_of_ble_eq_true rfl, Nat.le_of_ble_eq_true rfl⟩ (by decide +kernel) ?_
            refine g_blk (pc' := 99) (loc' := [some (vR (2, 0, h)), some (vI w), some (vI g), some (vI lo), some (vI x), some (vI (if (rateS (habs σ h) (nI i) ((loadS (habs σ h) (nI i)) + (-x))) < ((spreadL (habs σ h) w g lo x i).1) then (rateS (habs σ h) (nI i) ((loadS (habs σ h) (nI i)) + (-x))) else ((spreadL (habs σ h) w g lo x i).1))), some (vI ((spreadL (habs σ h) w g lo x i).2)), some (vI (nI i)), some (vI (loadS (habs σ h) (nI i))), some (vI (-x)), some (vI (rateS (habs σ h) (nI i) ((loadS (habs σ h) (nI i)) + (-x))))]) (st' := [vI (rateS (habs σ h) (nI i) ((loadS (habs σ h) (nI i)) + (-x))), vI ((spreadL (habs σ h) w g lo x i).2)]) (σ' := σ) fl1_ok [(93, .istore 5), (95, .iload 6), (97, .iload 10)] (by decide +kernel) rfl rfl ?_
            refine g_max jl_RX1_69 ⟨Nat.le_of_ble_eq_true rfl, Nat.le_of_ble_eq_true rfl⟩ (by decide +kernel) ?_
            refine g_blk (pc' := 10) (loc' := [some (vR (2, 0, h)), some (vI w), some (vI g), some (vI lo), some (vI x), some (vI (if (rateS (habs σ h) (nI i) ((loadS (habs σ h) (nI i)) + (-x))) < ((spreadL (habs σ h) w g lo x i).1) then (rateS (habs σ h) (nI i) ((loadS (habs σ h) (nI i)) + (-x))) else ((spreadL (habs σ h) w g lo x i).1))), some (vI (if ((spreadL (habs σ h) w g lo x i).2) < (rateS (habs σ h) (nI i) ((loadS (habs σ h) (nI i)) + (-x))) then (rateS (habs σ h) (nI i) ((loadS (habs σ h) (nI i)) + (-x))) else ((spreadL (habs σ h) w g lo x i).2))), some (vI ((nI i) + (1 : Int32))), some (vI (loadS (habs σ h) (nI i))), some (vI (-x)), some (vI (rateS (habs σ h) (nI i) ((loadS (habs σ h) (nI i)) + (-x))))]) (st' := []) (σ' := σ) fl1_ok [(102, .istore 6), (104, .iinc 7 1), (107, .goto (-97))] (by decide +kernel) rfl rfl ?_
            have hstep : spreadL (habs σ h) w g lo x (i + 1) = (if (rateS (habs σ h) (nI i) ((loadS (habs σ h) (nI i)) + (-x))) < ((spreadL (habs σ h) w g lo x i).1) then (rateS (habs σ h) (nI i) ((loadS (habs σ h) (nI i)) + (-x))) else ((spreadL (habs σ h) w g lo x i).1), if ((spreadL (habs σ h) w g lo x i).2) < (rateS (habs σ h) (nI i) ((loadS (habs σ h) (nI i)) + (-x))) then (rateS (habs σ h) (nI i) ((loadS (habs σ h) (nI i)) + (-x))) else ((spreadL (habs σ h) w g lo x i).2)) := by rw [spreadL, amountS, if_neg zc23, if_pos zc50, if_neg (not_not_intro zc61)]; rfl
            have hih := ih (i + 1) (by omega) (by omega)
            rw [hstep] at hih
            rw [nI_1]
            exact g_sub (loc' := [some (vR (2, 0, h)), some (vI w), some (vI g), some (vI lo), some (vI x), some (vI (if (rateS (habs σ h) (nI i) ((loadS (habs σ h) (nI i)) + (-x))) < ((spreadL (habs σ h) w g lo x i).1) then (rateS (habs σ h) (nI i) ((loadS (habs σ h) (nI i)) + (-x))) else ((spreadL (habs σ h) w g lo x i).1))), some (vI (if ((spreadL (habs σ h) w g lo x i).2) < (rateS (habs σ h) (nI i) ((loadS (habs σ h) (nI i)) + (-x))) then (rateS (habs σ h) (nI i) ((loadS (habs σ h) (nI i)) + (-x))) else ((spreadL (habs σ h) w g lo x i).2))), some (vI (nI (i + 1))), none, none, none]) ⟨Or.inr rfl, ⟨Or.inr rfl, ⟨Or.inr rfl, ⟨Or.inr rfl, ⟨Or.inr rfl, ⟨Or.inr rfl, ⟨Or.inr rfl, ⟨Or.inr rfl, ⟨Or.inl rfl, ⟨Or.inl rfl, ⟨Or.inl rfl, trivial⟩⟩⟩⟩⟩⟩⟩⟩⟩⟩⟩ hih
        · refine g_blk (pc' := 81) (loc' := [some (vR (2, 0, h)), some (vI w), some (vI g), some (vI lo), some (vI x), some (vI ((spreadL (habs σ h) w g lo x i).1)), some (vI ((spreadL (habs σ h) w g lo x i).2)), some (vI (nI i)), some (vI (loadS (habs σ h) (nI i))), some (vI x), none]) (st' := [vI ((loadS (habs σ h) (nI i)) + x), vI (nI i), vR (2, 0, h)]) (σ' := σ) fl1_ok [(53, .iload 4), (55, .goto 16), (71, .istore 9), (73, .aload_n 0), (74, .iload 7), (76, .iload 8), (78, .iload 9), (80, .iadd)] (by decide +kernel) rfl rfl ?_
          refine g_callVp (2, 0, h) [vI (nI i), vI ((loadS (habs σ h) (nI i)) + x)] [] vl_RX1_177 mi_X1_rateOf (c_X1_rateOf l hH (nI i) ((loadS (habs σ h) (nI i)) + x)) rfl rfl rfl rfl ⟨Nat.le_of_ble_eq_true rfl, Nat.le_of_ble_eq_true rfl⟩ rfl (Nat.le_of_ble_eq_true rfl) (by decide +kernel) ?_
          refine g_blk (pc' := 90) (loc' := [some (vR (2, 0, h)), some (vI w), some (vI g), some (vI lo), some (vI x), some (vI ((spreadL (habs σ h) w g lo x i).1)), some (vI ((spreadL (habs σ h) w g lo x i).2)), some (vI (nI i)), some (vI (loadS (habs σ h) (nI i))), some (vI x), some (vI (rateS (habs σ h) (nI i) ((loadS (habs σ h) (nI i)) + x)))]) (st' := [vI (rateS (habs σ h) (nI i) ((loadS (habs σ h) (nI i)) + x)), vI ((spreadL (habs σ h) w g lo x i).1)]) (σ' := σ) fl1_ok [(84, .istore 10), (86, .iload 5), (88, .iload 10)] (by decide +kernel) rfl rfl ?_
          refine g_min jl_RX1_146 ⟨Nat.le_of_ble_eq_true rfl, Nat.le_of_ble_eq_true rfl⟩ (by decide +kernel) ?_
          refine g_blk (pc' := 99) (loc' := [some (vR (2, 0, h)), some (vI w), some (vI g), some (vI lo), some (vI x), some (vI (if (rateS (habs σ h) (nI i) ((loadS (habs σ h) (nI i)) + x)) < ((spreadL (habs σ h) w g lo x i).1) then (rateS (habs σ h) (nI i) ((loadS (habs σ h) (nI i)) + x)) else ((spreadL (habs σ h) w g lo x i).1))), some (vI ((spreadL (habs σ h) w g lo x i).2)), some (vI (nI i)), some (vI (loadS (habs σ h) (nI i))), some (vI x), some (vI (rateS (habs σ h) (nI i) ((loadS (habs σ h) (nI i)) + x)))]) (st' := [vI (rateS (habs σ h) (nI i) ((loadS (habs σ h) (nI i)) + x)), vI ((spreadL (habs σ h) w g lo x i).2)]) (σ' := σ) fl1_ok [(93, .istore 5), (95, .iload 6), (97, .iload 10)] (by decide +kernel) rfl rfl ?_
          refine g_max jl_RX1_69 ⟨Nat.le_of_ble_eq_true rfl, Nat.le_of_ble_eq_true rfl⟩ (by decide +kernel) ?_
          refine g_blk (pc' := 10) (loc' := [some (vR (2, 0, h)), some (vI w), some (vI g), some (vI lo), some (vI x), some (vI (if (rateS (habs σ h) (nI i) ((loadS (habs σ h) (nI i)) + x)) < ((spreadL (habs σ h) w g lo x i).1) then (rateS (habs σ h) (nI i) ((loadS (habs σ h) (nI i)) + x)) else ((spreadL (habs σ h) w g lo x i).1))), some (vI (if ((spreadL (habs σ h) w g lo x i).2) < (rateS (habs σ h) (nI i) ((loadS (habs σ h) (nI i)) + x)) then (rateS (habs σ h) (nI i) ((loadS (habs σ h) (nI i)) + x)) else ((spreadL (habs σ h) w g lo x i).2))), some (vI ((nI i) + (1 : Int32))), some (vI (loadS (habs σ h) (nI i))), some (vI x), some (vI (rateS (habs σ h) (nI i) ((loadS (habs σ h) (nI i)) + x)))]) (st' := []) (σ' := σ) fl1_ok [(102, .istore 6), (104, .iinc 7 1), (107, .goto (-97))] (by decide +kernel) rfl rfl ?_
          have hstep : spreadL (habs σ h) w g lo x (i + 1) = (if (rateS (habs σ h) (nI i) ((loadS (habs σ h) (nI i)) + x)) < ((spreadL (habs σ h) w g lo x i).1) then (rateS (habs σ h) (nI i) ((loadS (habs σ h) (nI i)) + x)) else ((spreadL (habs σ h) w g lo x i).1), if ((spreadL (habs σ h) w g lo x i).2) < (rateS (habs σ h) (nI i) ((loadS (habs σ h) (nI i)) + x)) then (rateS (habs σ h) (nI i) ((loadS (habs σ h) (nI i)) + x)) else ((spreadL (habs σ h) w g lo x i).2)) := by rw [spreadL, amountS, if_neg zc23, if_neg (not_not_intro zc50)]; rfl
          have hih := ih (i + 1) (by omega) (by omega)
          rw [hstep] at hih
          rw [nI_1]
          exact g_sub (loc' := [some (vR (2, 0, h)), some (vI w), some (vI g), some (vI lo), some (vI x), some (vI (if (rateS (habs σ h) (nI i) ((loadS (habs σ h) (nI i)) + x)) < ((spreadL (habs σ h) w g lo x i).1) then (rateS (habs σ h) (nI i) ((loadS (habs σ h) (nI i)) + x)) else ((spreadL (habs σ h) w g lo x i).1))), some (vI (if ((spreadL (habs σ h) w g lo x i).2) < (rateS (habs σ h) (nI i) ((loadS (habs σ h) (nI i)) + x)) then (rateS (habs σ h) (nI i) ((loadS (habs σ h) (nI i)) + x)) else ((spreadL (habs σ h) w g lo x i).2))), some (vI (nI (i + 1))), none, none, none]) ⟨Or.inr rfl, ⟨Or.inr rfl, ⟨Or.inr rfl, ⟨Or.inr rfl, ⟨Or.inr rfl, ⟨Or.inr rfl, ⟨Or.inr rfl, ⟨Or.inr rfl, ⟨Or.inl rfl, ⟨Or.inl rfl, ⟨Or.inl rfl, trivial⟩⟩⟩⟩⟩⟩⟩⟩⟩⟩⟩ hih
set_option maxHeartbeats 2000000 in
theorem c_X1_spreadOf (l : Launch) {σ : Sg} {h : Nat} (hH : HOK σ h) (w g lo x : Int32) : Con l 2 yX1_spreadOf cX1_spreadOf 11 (some .int) [vR (2, 0, h), vI w, vI g, vI lo, vI x] σ (pureP (spreadS (habs σ h) w g lo x) σ) := by
  refine con_of pn_X1_spreadOf (Nat.le_of_ble_eq_true rfl) (fun hPK hok => ?_)
  show G l (Rm 2) RX1 cX1_spreadOf 11 (some .int) _ 0 [some (vR (2, 0, h)), some (vI w), some (vI g), some (vI lo), some (vI x), none, none, none, none, none, none] [] σ
  refine g_ldc (v := 2147483647) k_max (by decide +kernel) ?_
  refine g_blk (pc' := 10) (loc' := [some (vR (2, 0, h)), some (vI w), some (vI g), some (vI lo), some (vI x), some (vI (2147483647 : Int32)), some (vI (0 : Int32)), some (vI (0 : Int32)), none, none, none]) (st' := []) (σ' := σ) fl1_ok [(2, .istore 5), (4, .iconst 0), (5, .istore 6), (7, .iconst 0), (8, .istore 7)] (by decide +kernel) rfl rfl ?_
  refine g_sub (loc' := [some (vR (2, 0, h)), some (vI w), some (vI g), some (vI lo), some (vI x), some (vI (2147483647 : Int32)), some (vI (0 : Int32)), some (vI (0 : Int32)), none, none, none]) ⟨Or.inr rfl, ⟨Or.inr rfl, ⟨Or.inr rfl, ⟨Or.inr rfl, ⟨Or.inr rfl, ⟨Or.inr rfl, ⟨Or.inr rfl, ⟨Or.inr rfl, ⟨Or.inr rfl, ⟨Or.inr rfl, ⟨Or.inr rfl, trivial⟩⟩⟩⟩⟩⟩⟩⟩⟩⟩⟩ ?_
  exact lp_X1_spreadOf l hH w g lo x (sz (habs σ h) 0 + 1) 0 (Nat.zero_le _) (by omega)
set_option maxHeartbeats 2000000 in
theorem c_X1_isTwinOpen (l : Launch) {σ : Sg} {h : Nat} (hH : HOK σ h) (t : Int32) : Con l 2 yX1_isTwinOpen cX1_isTwinOpen 2 (some .boolean) [vR (2, 0, h), vI t] σ (pureP (twinOpenS (habs σ h) t) σ) := by
  refine con_of pn_X1_isTwinOpen (Nat.le_of_ble_eq_true rfl) (fun hPK hok => ?_)
  show G l (Rm 2) RX1 cX1_isTwinOpen 2 (some .boolean) _ 0 [some (vR (2, 0, h)), some (vI t)] [] σ
  refine g_blk (pc' := 6) (loc' := [some (vR (2, 0, h)), some (vI t)]) (st' := [vI (4 : Int32), vI t, vR (0, 2, h)]) (σ' := σ) fl1_ok [(0, .aload_n 0), (1, .getfield 23), (4, .iload_n 1), (5, .iconst 4)] (by decide +kernel) rfl rfl ?_
  refine g_callVp (0, 2, h) [vI t, vI (4 : Int32)] [] vl_RX1_58 mi_X3_cell (ct_cell l hH 2 (by decide) t (4 : Int32)) rfl rfl rfl rfl ⟨Nat.le_of_ble_eq_true rfl, Nat.le_of_ble_eq_true rfl⟩ rfl (Nat.le_of_ble_eq_true rfl) (by decide +kernel) ?_
  refine g_if_ne (off := 5) (tgt := 14) (by decide +kernel) (by decide) (fun zc9 => ?_) (fun zc9 => ?_)
  · refine g_blk (pc' := 17) (loc' := [some (vR (2, 0, h)), some (vI t)]) (st' := [vI t, vR (2, 0, h), vR (2, 0, h)]) (σ' := σ) fl1_ok [(14, .aload_n 0), (15, .aload_n 0), (16, .iload_n 1)] (by decide +kernel) rfl rfl ?_
    refine g_callVp (2, 0, h) [vI t] [vR (2, 0, h)] vl_RX1_108 mi_X1_hasTwinAhead (c_X1_hasTwinAhead l hH t) rfl rfl rfl rfl ⟨Nat.le_of_ble_eq_true rfl, Nat.le_of_ble_eq_true rfl⟩ rfl (Nat.le_of_ble_eq_true rfl) (by decide +kernel) ?_
    refine g_if_eq (off := 9) (tgt := 29) (by decide +kernel) (by decide) (fun zc20 => ?_) (fun zc20 => ?_)
    · refine g_blk (pc' := 32) (loc' := [some (vR (2, 0, h)), some (vI t)]) (st' := [vI (t + (1 : Int32)), vR (2, 0, h)]) (σ' := σ) fl1_ok [(29, .iload_n 1), (30, .iconst 1), (31, .iadd)] (by decide +kernel) rfl rfl ?_
      refine g_callVp (2, 0, h) [vI (t + (1 : Int32))] [] vl_RX1_124 mi_X1_isOpen (c_X1_isOpen l hH (t + (1 : Int32))) rfl rfl rfl rfl ⟨Nat.le_of_ble_eq_true rfl, Nat.le_of_ble_eq_true rfl⟩ rfl (Nat.le_of_ble_eq_true rfl) (by decide +kernel) ?_
      exact g_zret (by decide +kernel) (openS_bit _ _) (by rw [twinOpenS, if_pos zc9, if_pos zc20]; exact ⟨rfl, rfl⟩)
    · refine g_blk (pc' := 32) (loc' := [some (vR (2, 0, h)), some (vI t)]) (st' := [vI (t - (1 : Int32)), vR (2, 0, h)]) (σ' := σ) fl1_ok [(23, .iload_n 1), (24, .iconst 1), (25, .isub), (26, .goto 6)] (by decide +kernel) rfl rfl ?_
      refine g_callVp (2, 0, h) [vI (t - (1 : Int32))] [] vl_RX1_124 mi_X1_isOpen (c_X1_isOpen l hH (t - (1 : Int32))) rfl rfl rfl rfl ⟨Nat.le_of_ble_eq_true rfl, Nat.le_of_ble_eq_true rfl⟩ rfl (Nat.le_of_ble_eq_true rfl) (by decide +kernel) ?_
      exact g_zret (by decide +kernel) (openS_bit _ _) (by rw [twinOpenS, if_pos zc9, if_neg zc20]; exact ⟨rfl, rfl⟩)
  · refine g_blk (pc' := 13) (loc' := [some (vR (2, 0, h)), some (vI t)]) (st' := [vI (0 : Int32)]) (σ' := σ) fl1_ok [(12, .iconst 0)] (by decide +kernel) rfl rfl ?_
    exact g_zret (by decide +kernel) (Or.inl rfl) (by rw [twinOpenS, if_neg (not_not_intro zc9)]; exact ⟨rfl, rfl⟩)
set_option maxHeartbeats 2000000 in
theorem c_X1_spread (l : Launch) {σ : Sg} {h : Nat} (hH : HOK σ h) : Con l 3 yX1_spread cX1_spread 1 (some .int) [vR (2, 0, h)] σ (pureP (spreadS (habs σ h) 0 (-6) (-6) 0) σ) := by
  refine con_of pn_X1_spread (Nat.le_of_ble_eq_true rfl) (fun hPK hok => ?_)
  show G l (Rm 3) RX1 cX1_spread 1 (some .int) _ 0 [some (vR (2, 0, h))] [] σ
  refine g_blk (pc' := 7) (loc' := [some (vR (2, 0, h))]) (st' := [vI (0 : Int32), vI (-6 : Int32), vI (-6 : Int32), vI (0 : Int32), vR (2, 0, h)]) (σ' := σ) fl1_ok [(0, .aload_n 0), (1, .iconst 0), (2, .bipush (-6)), (4, .bipush (-6)), (6, .iconst 0)] (by decide +kernel) rfl rfl ?_
  refine g_callVp (2, 0, h) [vI (0 : Int32), vI (-6 : Int32), vI (-6 : Int32), vI (0 : Int32)] [] vl_RX1_170 mi_X1_spreadOf (c_X1_spreadOf l hH (0 : Int32) (-6 : Int32) (-6 : Int32) (0 : Int32)) rfl rfl rfl rfl ⟨Nat.le_of_ble_eq_true rfl, Nat.le_of_ble_eq_true rfl⟩ rfl (Nat.le_of_ble_eq_true rfl) (by decide +kernel) ?_
  exact g_iret (by decide +kernel) (by exact ⟨rfl, rfl⟩)
set_option maxHeartbeats 2000000 in
theorem c_X1_plannedSpread (l : Launch) {σ : Sg} {h : Nat} (hH : HOK σ h) : Con l 3 yX1_plannedSpread cX1_plannedSpread 1 (some .int) [vR (2, 0, h)] σ (pureP (spreadS (habs σ h) 1 (-6) (-6) 0) σ) := by
  refine con_of pn_X1_plannedSpread (Nat.le_of_ble_eq_true rfl) (fun hPK hok => ?_)
  show G l (Rm 3) RX1 cX1_plannedSpread 1 (some .int) _ 0 [some (vR (2, 0, h))] [] σ
  refine g_blk (pc' := 7) (loc' := [some (vR (2, 0, h))]) (st' := [vI (0 : Int32), vI (-6 : Int32), vI (-6 : Int32), vI (1 : Int32), vR (2, 0, h)]) (σ' := σ) fl1_ok [(0, .aload_n 0), (1, .iconst 1), (2, .bipush (-6)), (4, .bipush (-6)), (6, .iconst 0)] (by decide +kernel) rfl rfl ?_
  refine g_callVp (2, 0, h) [vI (1 : Int32), vI (-6 : Int32), vI (-6 : Int32), vI (0 : Int32)] [] vl_RX1_170 mi_X1_spreadOf (c_X1_spreadOf l hH (1 : Int32) (-6 : Int32) (-6 : Int32) (0 : Int32)) rfl rfl rfl rfl ⟨Nat.le_of_ble_eq_true rfl, Nat.le_of_ble_eq_true rfl⟩ rfl (Nat.le_of_ble_eq_true rfl) (by decide +kernel) ?_
  exact g_iret (by decide +kernel) (by exact ⟨rfl, rfl⟩)
set_option maxHeartbeats 2000000 in
theorem c_X1_spreadIfExchanged (l : Launch) {σ : Sg} {h : Nat} (hH : HOK σ h) (a b : Int32) : Con l 3 yX1_spreadIfExchanged cX1_spreadIfExchanged 5 (some .int) [vR (2, 0, h), vI a, vI b] σ (pureP (spreadIfS (habs σ h) a b) σ) := by
  refine con_of pn_X1_spreadIfExchanged (Nat.le_of_ble_eq_true rfl) (fun hPK hok => ?_)
  show G l (Rm 3) RX1 cX1_spreadIfExchanged 5 (some .int) _ 0 [some (vR (2, 0, h)), some (vI a), some (vI b), none, none] [] σ
  refine g_blk (pc' := 6) (loc' := [some (vR (2, 0, h)), some (vI a), some (vI b), none, none]) (st' := [vI (1 : Int32), vI a, vR (0, 2, h)]) (σ' := σ) fl1_ok [(0, .aload_n 0), (1, .getfield 23), (4, .iload_n 1), (5, .iconst 1)] (by decide +kernel) rfl rfl ?_
  refine g_callVp (0, 2, h) [vI a, vI (1 : Int32)] [] vl_RX1_58 mi_X3_cell (ct_cell l hH 2 (by decide) a (1 : Int32)) rfl rfl rfl rfl ⟨Nat.le_of_ble_eq_true rfl, Nat.le_of_ble_eq_true rfl⟩ rfl (Nat.le_of_ble_eq_true rfl) (by decide +kernel) ?_
  refine g_blk (pc' := 16) (loc' := [some (vR (2, 0, h)), some (vI a), some (vI b), some (vI (cl (habs σ h) 2 a (1 : Int32))), none]) (st' := [vI (1 : Int32), vI b, vR (0, 2, h)]) (σ' := σ) fl1_ok [(9, .istore_n 3), (10, .aload_n 0), (11, .getfield 23), (14, .iload_n 2), (15, .iconst 1)] (by decide +kernel) rfl rfl ?_
  refine g_callVp (0, 2, h) [vI b, vI (1 : Int32)] [] vl_RX1_58 mi_X3_cell (ct_cell l hH 2 (by decide) b (1 : Int32)) rfl rfl rfl rfl ⟨Nat.le_of_ble_eq_true rfl, Nat.le_of_ble_eq_true rfl⟩ rfl (Nat.le_of_ble_eq_true rfl) (by decide +kernel) ?_
  refine g_blk (pc' := 29) (loc' := [some (vR (2, 0, h)), some (vI a), some (vI b), some (vI (cl (habs σ h) 2 a (1 : Int32))), some (vI (cl (habs σ h) 2 b (1 : Int32)))]) (st' := [vI b, vI a, vR (2, 0, h), vI (cl (habs σ h) 2 b (1 : Int32)), vI (cl (habs σ h) 2 a (1 : Int32)), vI (1 : Int32), vR (2, 0, h)]) (σ' := σ) fl1_ok [(19, .istore 4), (21, .aload_n 0), (22, .iconst 1), (23, .iload_n 3), (24, .iload 4), (26, .aload_n 0), (27, .iload_n 1), (28, .iload_n 2)] (by decide +kernel) rfl rfl ?_
  refine g_callVp (2, 0, h) [vI a, vI b] [vI (cl (habs σ h) 2 b (1 : Int32)), vI (cl (habs σ h) 2 a (1 : Int32)), vI (1 : Int32), vR (2, 0, h)] vl_RX1_167 mi_X1_gainOfExchange (c_X1_gainOfExchange l hH a b) rfl rfl rfl rfl ⟨Nat.le_of_ble_eq_true rfl, Nat.le_of_ble_eq_true rfl⟩ rfl (Nat.le_of_ble_eq_true rfl) (by decide +kernel) ?_
  refine g_callVp (2, 0, h) [vI (1 : Int32), vI (cl (habs σ h) 2 a (1 : Int32)), vI (cl (habs σ h) 2 b (1 : Int32)), vI (gainS (habs σ h) a b)] [] vl_RX1_170 mi_X1_spreadOf (c_X1_spreadOf l hH (1 : Int32) (cl (habs σ h) 2 a (1 : Int32)) (cl (habs σ h) 2 b (1 : Int32)) (gainS (habs σ h) a b)) rfl rfl rfl rfl ⟨Nat.le_of_ble_eq_true rfl, Nat.le_of_ble_eq_true rfl⟩ rfl (Nat.le_of_ble_eq_true rfl) (by decide +kernel) ?_
  exact g_iret (by decide +kernel) (by exact ⟨rfl, rfl⟩)
set_option maxHeartbeats 2000000 in
theorem lp_X1_firstOpenTaskOf (l : Launch) {σ : Sg} {h : Nat} (hH : HOK σ h) (r : Int32) : ∀ (k i : Nat), i + k = sz (habs σ h) 2 → G l (Rm 3) RX1 cX1_firstOpenTaskOf 3 (some .int) (pureP (firstF (habs σ h) r k i) σ) 2 [some (vR (2, 0, h)), some (vI r), some (vI (nI i))] [] σ := by
  intro k
  induction k with
  | zero =>
    intro i hk
    refine g_blk (pc' := 7) (loc' := [some (vR (2, 0, h)), some (vI r), some (vI (nI i))]) (st' := [vR (0, 2, h), vI (nI i)]) (σ' := σ) fl1_ok [(2, .iload_n 2), (3, .aload_n 0), (4, .getfield 23)] (by decide +kernel) rfl rfl ?_
    refine g_callVp (0, 2, h) [] [vI (nI i)] vl_RX1_66 mi_X3_size (ct_size l hH 2 (by decide)) rfl rfl rfl rfl ⟨Nat.le_of_ble_eq_true rfl, Nat.le_of_ble_eq_true rfl⟩ rfl (Nat.le_of_ble_eq_true rfl) (by decide +kernel) ?_
    refine g_icmp_ge (off := 20) (tgt := 30) (by decide +kernel) (by decide) (fun zc10 => ?_) (fun zc10 => ?_)
    · rw [nI_leI (by have := ha_N hH 2 (by decide); have := mst_le 2; omega) (by have := ha_N hH 2 (by decide); have := mst_le 2; omega)] at zc10
      refine g_blk (pc' := 32) (loc' := [some (vR (2, 0, h)), some (vI r), some (vI (nI i))]) (st' := [vI (-6 : Int32)]) (σ' := σ) fl1_ok [(30, .bipush (-6))] (by decide +kernel) rfl rfl ?_
      exact g_iret (by decide +kernel) ⟨by rw [firstF], rfl⟩
    · rw [nI_leI (by have := ha_N hH 2 (by decide); have := mst_le 2; omega) (by have := ha_N hH 2 (by decide); have := mst_le 2; omega)] at zc10
      exact absurd (by omega) zc10
  | succ k ih =>
    intro i hk
    refine g_blk (pc' := 7) (loc' := [some (vR (2, 0, h)), some (vI r), some (vI (nI i))]) (st' := [vR (0, 2, h), vI (nI i)]) (σ' := σ) fl1_ok [(2, .iload_n 2), (3, .aload_n 0), (4, .getfield 23)] (by decide +kernel) rfl rfl ?_
    refine g_callVp (0, 2, h) [] [vI (nI i)] vl_RX1_66 mi_X3_size (ct_size l hH 2 (by decide)) rfl rfl rfl rfl ⟨Nat.le_of_ble_eq_true rfl, Nat.le_of_ble_eq_true rfl⟩ rfl (Nat.le_of_ble_eq_true rfl) (by decide +kernel) ?_
    refine g_icmp_ge (off := 20) (tgt := 30) (by decide +kernel) (by decide) (fun zc10 => ?_) (fun zc10 => ?_)
    · rw [nI_leI (by have := ha_N hH 2 (by decide); have := mst_le 2; omega) (by have := ha_N hH 2 (by decide); have := mst_le 2; omega)] at zc10
      exact absurd zc10 (by omega)
    · rw [nI_leI (by have := ha_N hH 2 (by decide); have := mst_le 2; omega) (by have := ha_N hH 2 (by decide); have := mst_le 2; omega)] at zc10
      refine g_blk (pc' := 16) (loc' := [some (vR (2, 0, h)), some (vI r), some (vI (nI i))]) (st' := [vI r, vI (nI i), vR (2, 0, h)]) (σ' := σ) fl1_ok [(13, .aload_n 0), (14, .iload_n 2), (15, .iload_n 1)] (by decide +kernel) rfl rfl ?_
      refine g_callVp (2, 0, h) [vI (nI i), vI r] [] vl_RX1_127 mi_X1_isOpenTaskOf (c_X1_isOpenTaskOf l hH (nI i) r) rfl rfl rfl rfl ⟨Nat.le_of_ble_eq_true rfl, Nat.le_of_ble_eq_true rfl⟩ rfl (Nat.le_of_ble_eq_true rfl) (by decide +kernel) ?_
      refine g_if_eq (off := 5) (tgt := 24) (by decide +kernel) (by decide) (fun zc19 => ?_) (fun zc19 => ?_)
      · refine g_blk (pc' := 2) (loc' := [some (vR (2, 0, h)), some (vI r), some (vI ((nI i) + (1 : Int32)))]) (st' := []) (σ' := σ) fl1_ok [(24, .iinc 2 1), (27, .goto (-25))] (by decide +kernel) rfl rfl ?_
        have hstep : firstF (habs σ h) r (k + 1) i = firstF (habs σ h) r k (i + 1) := by rw [firstF, if_pos zc19]
        rw [hstep, nI_1]
        exact g_sub (loc' := [some (vR (2, 0, h)), some (vI r), some (vI (nI (i + 1)))]) ⟨Or.inr rfl, ⟨Or.inr rfl, ⟨Or.inr rfl, trivial⟩⟩⟩ (ih (i + 1) (by omega))
      · refine g_blk (pc' := 23) (loc' := [some (vR (2, 0, h)), some (vI r), some (vI (nI i))]) (st' := [vI (nI i)]) (σ' := σ) fl1_ok [(22, .iload_n 2)] (by decide +kernel) rfl rfl ?_
        exact g_iret (by decide +kernel) ⟨by rw [firstF, if_neg zc19], rfl⟩
set_option maxHeartbeats 2000000 in
theorem c_X1_firstOpenTaskOf (l : Launch) {σ : Sg} {h : Nat} (hH : HOK σ h) (r : Int32) : Con l 3 yX1_firstOpenTaskOf cX1_firstOpenTaskOf 3 (some .int) [vR (2, 0, h), vI r] σ (pureP (firstF (habs σ h) r (sz (habs σ h) 2) 0) σ) := by
  refine con_of pn_X1_firstOpenTaskOf (Nat.le_of_ble_eq_true rfl) (fun hPK hok => ?_)
  show G l (Rm 3) RX1 cX1_firstOpenTaskOf 3 (some .int) _ 0 [some (vR (2, 0, h)), some (vI r), none] [] σ
  refine g_blk (pc' := 2) (loc' := [some (vR (2, 0, h)), some (vI r), some (vI (0 : Int32))]) (st' := []) (σ' := σ) fl1_ok [(0, .iconst 0), (1, .istore_n 2)] (by decide +kernel) rfl rfl ?_
  exact lp_X1_firstOpenTaskOf l hH r (sz (habs σ h) 2) 0 (by omega)
set_option maxHeartbeats 2000000 in
theorem lp_X1_isProposed (l : Launch) {σ : Sg} {h : Nat} (hH : HOK σ h) (a b : Int32) : ∀ (k i : Nat), i + k = sz (habs σ h) 3 → G l (Rm 1) RX1 cX1_isProposed 4 (some .boolean) (pureP (propF (habs σ h) a b k i) σ) 2 [some (vR (2, 0, h)), some (vI a), some (vI b), some (vI (nI i))] [] σ := by
  intro k
  induction k with
  | zero =>
    intro i hk
    refine g_blk (pc' := 7) (loc' := [some (vR (2, 0, h)), some (vI a), some (vI b), some (vI (nI i))]) (st' := [vR (0, 3, h), vI (nI i)]) (σ' := σ) fl1_ok [(2, .iload_n 3), (3, .aload_n 0), (4, .getfield 26)] (by decide +kernel) rfl rfl ?_
    refine g_callVp (0, 3, h) [] [vI (nI i)] vl_RX1_66 mi_X3_size (ct_size l hH 3 (by decide)) rfl rfl rfl rfl ⟨Nat.le_of_ble_eq_true rfl, Nat.le_of_ble_eq_true rfl⟩ rfl (Nat.le_of_ble_eq_true rfl) (by decide +kernel) ?_
    refine g_icmp_ge (off := 37) (tgt := 47) (by decide +kernel) (by decide) (fun zc10 => ?_) (fun zc10 => ?_)
    · rw [nI_leI (by have := ha_N hH 3 (by decide); have := mst_le 3; omega) (by have := ha_N hH 3 (by decide); have := mst_le 3; omega)] at zc10
      refine g_blk (pc' := 48) (loc' := [some (vR (2, 0, h)), some (vI a), some (vI b), some (vI (nI i))]) (st' := [vI (0 : Int32)]) (σ' := σ) fl1_ok [(47, .iconst 0)] (by decide +kernel) rfl rfl ?_
      exact g_zret (by decide +kernel) (Or.inl rfl) ⟨by rw [propF], rfl⟩
    · rw [nI_leI (by have := ha_N hH 3 (by decide); have := mst_le 3; omega) (by have := ha_N hH 3 (by decide); have := mst_le 3; omega)] at zc10
      exact absurd (by omega) zc10
  | succ k ih =>
    intro i hk
    refine g_blk (pc' := 7) (loc' := [some (vR (2, 0, h)), some (vI a), some (vI b), some (vI (nI i))]) (st' := [vR (0, 3, h), vI (nI i)]) (σ' := σ) fl1_ok [(2, .iload_n 3), (3, .aload_n 0), (4, .getfield 26)] (by decide +kernel) rfl rfl ?_
    refine g_callVp (0, 3, h) [] [vI (nI i)] vl_RX1_66 mi_X3_size (ct_size l hH 3 (by decide)) rfl rfl rfl rfl ⟨Nat.le_of_ble_eq_true rfl, Nat.le_of_ble_eq_true rfl⟩ rfl (Nat.le_of_ble_eq_true rfl) (by decide +kernel) ?_
    refine g_icmp_ge (off := 37) (tgt := 47) (by decide +kernel) (by decide) (fun zc10 => ?_) (fun zc10 => ?_)
    · rw [nI_leI (by have := ha_N hH 3 (by decide); have := mst_le 3; omega) (by have := ha_N hH 3 (by decide); have := mst_le 3; omega)] at zc10
      exact absurd zc10 (by omega)
    · rw [nI_leI (by have := ha_N hH 3 (by decide); have := mst_le 3; omega) (by have := ha_N hH 3 (by decide); have := mst_le 3; omega)] at zc10
      refine g_blk (pc' := 19) (loc' := [some (vR (2, 0, h)), some (vI a), some (vI b), some (vI (nI i))]) (st' := [vI (0 : Int32), vI (nI i), vR (0, 3, h)]) (σ' := σ) fl1_ok [(13, .aload_n 0), (14, .getfield 26), (17, .iload_n 3), (18, .iconst 0)] (by decide +kernel) rfl rfl ?_
      refine g_callVp (0, 3, h) [vI (nI i), vI (0 : Int32)] [] vl_RX1_58 mi_X3_cell (ct_cell l hH 3 (by decide) (nI i) (0 : Int32)) rfl rfl rfl rfl ⟨Nat.le_of_ble_eq_true rfl, Nat.le_of_ble_eq_true rfl⟩ rfl (Nat.le_of_ble_eq_true rfl) (by decide +kernel) ?_
      refine g_blk (pc' := 23) (loc' := [some (vR (2, 0, h)), some (vI a), some (vI b), some (vI (nI i))]) (st' := [vI a, vI (cl (habs σ h) 3 (nI i) (0 : Int32))]) (σ' := σ) fl1_ok [(22, .iload_n 1)] (by decide +kernel) rfl rfl ?_
      refine g_icmp_ne (off := 18) (tgt := 41) (by decide +kernel) (by decide) (fun zc23 => ?_) (fun zc23 => ?_)
      · refine g_blk (pc' := 2) (loc' := [some (vR (2, 0, h)), some (vI a), some (vI b), some (vI ((nI i) + (1 : Int32)))]) (st' := []) (σ' := σ) fl1_ok [(41, .iinc 3 1), (44, .goto (-42))] (by decide +kernel) rfl rfl ?_
        have hstep : propF (habs σ h) a b (k + 1) i = propF (habs σ h) a b k (i + 1) := by rw [propF, if_pos zc23]
        rw [hstep, nI_1]
        exact g_sub (loc' := [some (vR (2, 0, h)), some (vI a), some (vI b), some (vI (nI (i + 1)))]) ⟨Or.inr rfl, ⟨Or.inr rfl, ⟨Or.inr rfl, ⟨Or.inr rfl, trivial⟩⟩⟩⟩ (ih (i + 1) (by omega))
      · refine g_blk (pc' := 32) (loc' := [some (vR (2, 0, h)), some (vI a), some (vI b), some (vI (nI i))]) (st' := [vI (1 : Int32), vI (nI i), vR (0, 3, h)]) (σ' := σ) fl1_ok [(26, .aload_n 0), (27, .getfield 26), (30, .iload_n 3), (31, .iconst 1)] (by decide +kernel) rfl rfl ?_
        refine g_callVp (0, 3, h) [vI (nI i), vI (1 : Int32)] [] vl_RX1_58 mi_X3_cell (ct_cell l hH 3 (by decide) (nI i) (1 : Int32)) rfl rfl rfl rfl ⟨Nat.le_of_ble_eq_true rfl, Nat.le_of_ble_eq_true rfl⟩ rfl (Nat.le_of_ble_eq_true rfl) (by decide +kernel) ?_
        refine g_blk (pc' := 36) (loc' := [some (vR (2, 0, h)), some (vI a), some (vI b), some (vI (nI i))]) (st' := [vI b, vI (cl (habs σ h) 3 (nI i) (1 : Int32))]) (σ' := σ) fl1_ok [(35, .iload_n 2)] (by decide +kernel) rfl rfl ?_
        refine g_icmp_ne (off := 5) (tgt := 41) (by decide +kernel) (by decide) (fun zc36 => ?_) (fun zc36 => ?_)
        · refine g_blk (pc' := 2) (loc' := [some (vR (2, 0, h)), some (vI a), some (vI b), some (vI ((nI i) + (1 : Int32)))]) (st' := []) (σ' := σ) fl1_ok [(41, .iinc 3 1), (44, .goto (-42))] (by decide +kernel) rfl rfl ?_
          have hstep : propF (habs σ h) a b (k + 1) i = propF (habs σ h) a b k (i + 1) := by rw [propF, if_neg (not_not_intro zc23), if_pos zc36]
          rw [hstep, nI_1]
          exact g_sub (loc' := [some (vR (2, 0, h)), some (vI a), some (vI b), some (vI (nI (i + 1)))]) ⟨Or.inr rfl, ⟨Or.inr rfl, ⟨Or.inr rfl, ⟨Or.inr rfl, trivial⟩⟩⟩⟩ (ih (i + 1) (by omega))
        · refine g_blk (pc' := 40) (loc' := [some (vR (2, 0, h)), some (vI a), some (vI b), some (vI (nI i))]) (st' := [vI (1 : Int32)]) (σ' := σ) fl1_ok [(39, .iconst 1)] (by decide +kernel) rfl rfl ?_
          exact g_zret (by decide +kernel) (Or.inr rfl) ⟨by rw [propF, if_neg (not_not_intro zc23), if_neg (not_not_intro zc36)], rfl⟩
set_option maxHeartbeats 2000000 in
theorem c_X1_isProposed (l : Launch) {σ : Sg} {h : Nat} (hH : HOK σ h) (a b : Int32) : Con l 1 yX1_isProposed cX1_isProposed 4 (some .boolean) [vR (2, 0, h), vI a, vI b] σ (pureP (propF (habs σ h) a b (sz (habs σ h) 3) 0) σ) := by
  refine con_of pn_X1_isProposed (Nat.le_of_ble_eq_true rfl) (fun hPK hok => ?_)
  show G l (Rm 1) RX1 cX1_isProposed 4 (some .boolean) _ 0 [some (vR (2, 0, h)), some (vI a), some (vI b), none] [] σ
  refine g_blk (pc' := 2) (loc' := [some (vR (2, 0, h)), some (vI a), some (vI b), some (vI (0 : Int32))]) (st' := []) (σ' := σ) fl1_ok [(0, .iconst 0), (1, .istore_n 3)] (by decide +kernel) rfl rfl ?_
  exact lp_X1_isProposed l hH a b (sz (habs σ h) 3) 0 (by omega)
end
section
/-! HOUSE: writers (laid by wip/whole/mk12.py) -/
theorem sz_drop (S : HA) (t : Int32) (j : Nat) (hj : j ≠ 3) : sz (dropS S t) j = sz S j := by
  unfold dropS sz setT
  simp only
  rw [if_neg hj]
theorem sz_fin (S : HA) (t : Int32) : sz (finS S t) 2 = sz S 2 := by
  unfold finS
  simp only
  rw [sz_drop _ _ 2 (by decide)]
  split <;> rfl
theorem ha_hi (σ : Sg) (h j : Nat) (hj : ¬ j < 5) : (habs σ h).1 j = (0, fun _ _ => 0) := if_neg hj
theorem ha_hf (σ : Sg) (h k : Nat) (hk : ¬ (5 ≤ k ∧ k ≤ 8)) : (habs σ h).2 k = 0 := if_neg hk
theorem cp_all (S T : HA) (hS : ∀ j, ¬ j < 5 → S.1 j = (0, fun _ _ => 0)) (hT : ∀ j, ¬ j < 5 → T.1 j = (0, fun _ _ => 0)) (fS : ∀ k, ¬ (5 ≤ k ∧ k ≤ 8) → S.2 k = 0) (fT : ∀ k, ¬ (5 ≤ k ∧ k ≤ 8) → T.2 k = 0) :
    setF (setF (setF (setF (setT (setT (setT (setT (setT S 0 (T.1 0)) 1 (T.1 1)) 2 (T.1 2)) 3 (T.1 3)) 4 (T.1 4)) 5 (T.2 5)) 6 (T.2 6)) 7 (T.2 7)) 8 (T.2 8) = T := by
  refine Prod.ext ?_ ?_
  · funext j
    match j with
    | 0 => rfl
    | 1 => rfl
    | 2 => rfl
    | 3 => rfl
    | 4 => rfl
    | j + 5 => exact (hS (j + 5) (by omega)).trans (hT (j + 5) (by omega)).symm
  · funext k
    match k with
    | 0 => exact (fS 0 (by omega)).trans (fT 0 (by omega)).symm
    | 1 => exact (fS 1 (by omega)).trans (fT 1 (by omega)).symm
    | 2 => exact (fS 2 (by omega)).trans (fT 2 (by omega)).symm
    | 3 => exact (fS 3 (by omega)).trans (fT 3 (by omega)).symm
    | 4 => exact (fS 4 (by omega)).trans (fT 4 (by omega)).symm
    | 5 => rfl
    | 6 => rfl
    | 7 => rfl
    | 8 => rfl
    | k + 9 => exact (fS (k + 9) (by omega)).trans (fT (k + 9) (by omega)).symm
set_option maxHeartbeats 2000000 in
theorem c_X1_clean (l : Launch) {σ : Sg} {h : Nat} (a : Int32) (hH : HOK σ h) : Con l 2 yX1_clean cX1_clean 2 none [vR (2, 0, h), vI a] σ (fun o σ' => o = none ∧ HW h (cleanS (habs σ h) a) σ σ') := by
  refine con_of pn_X1_clean (Nat.le_of_ble_eq_true rfl) (fun hPK hok => ?_)
  show G l (Rm 2) RX1 cX1_clean 2 none _ 0 [some (vR (2, 0, h)), some (vI a)] [] σ
  refine g_blk (pc' := 7) (loc' := [some (vR (2, 0, h)), some (vI a)]) (st' := [vI (0 : Int32), vI (3 : Int32), vI a, vR (0, 1, h)]) (σ' := σ) fl1_ok [(0, .aload_n 0), (1, .getfield 20), (4, .iload_n 1), (5, .iconst 3), (6, .iconst 0)] (by decide +kernel) rfl rfl ?_
  refine g_callV (0, 1, h) [vI a, vI (3 : Int32), vI (0 : Int32)] [] vl_RX1_36 mi_X3_write (ct_write l hH 1 (by decide) a (3 : Int32) (0 : Int32)) rfl rfl rfl rfl ⟨Nat.le_of_ble_eq_true rfl, Nat.le_of_ble_eq_true rfl⟩ rfl (Nat.le_of_ble_eq_true rfl) (by decide +kernel) (fun o σ1 hPσ1 => ?_)
  obtain ⟨rfl, hWσ1⟩ := hPσ1
  refine g_blk (pc' := 17) (loc' := [some (vR (2, 0, h)), some (vI a)]) (st' := [vI (1 : Int32), vI (4 : Int32), vI a, vR (0, 1, h)]) (σ' := σ1) fl1_ok [(10, .aload_n 0), (11, .getfield 20), (14, .iload_n 1), (15, .iconst 4), (16, .iconst 1)] (by decide +kernel) rfl rfl ?_
  refine g_callV (0, 1, h) [vI a, vI (4 : Int32), vI (1 : Int32)] [] vl_RX1_74 mi_X3_increase (ct_increase l hWσ1.2.1 1 (by decide) a (4 : Int32) (1 : Int32)) rfl rfl rfl rfl ⟨Nat.le_of_ble_eq_true rfl, Nat.le_of_ble_eq_true rfl⟩ rfl (Nat.le_of_ble_eq_true rfl) (by decide +kernel) (fun o σ2 hPσ2 => ?_)
  obtain ⟨rfl, hWσ2⟩ := hPσ2
  exact g_vret (by decide +kernel) ⟨rfl, ⟨by rw [hWσ2.1, hWσ1.1] <;> rfl, hWσ2.2.1, (hWσ1.2.2).tr hWσ2.2.2⟩⟩
set_option maxHeartbeats 2000000 in
theorem c_X1_addResident (l : Launch) {σ : Sg} {h : Nat} (w : Int32) (hH : HOK σ h) (hn : sz (habs σ h) 0 < 8) : Con l 2 yX1_addResident cX1_addResident 3 (some .int) [vR (2, 0, h), vI w] σ (fun o σ' => o = some (vI (nI (sz (habs σ h) 0))) ∧ HW h (addResS (habs σ h) w) σ σ') := by
  refine con_of pn_X1_addResident (Nat.le_of_ble_eq_true rfl) (fun hPK hok => ?_)
  show G l (Rm 2) RX1 cX1_addResident 3 (some .int) _ 0 [some (vR (2, 0, h)), some (vI w), none] [] σ
  refine g_blk (pc' := 4) (loc' := [some (vR (2, 0, h)), some (vI w), none]) (st' := [vR (0, 0, h)]) (σ' := σ) fl1_ok [(0, .aload_n 0), (1, .getfield 16)] (by decide +kernel) rfl rfl ?_
  refine g_callV (0, 0, h) [] [] vl_RX1_32 mi_X3_append (ct_append l hH 0 (by decide) hn) rfl rfl rfl rfl ⟨Nat.le_of_ble_eq_true rfl, Nat.le_of_ble_eq_true rfl⟩ rfl (Nat.le_of_ble_eq_true rfl) (by decide +kernel) (fun o σ1 hPσ1 => ?_)
  obtain ⟨rfl, hWσ1⟩ := hPσ1
  refine g_blk (pc' := 15) (loc' := [some (vR (2, 0, h)), some (vI w), some (vI (nI (sz (habs σ h) 0)))]) (st' := [vI w, vI (0 : Int32), vI (nI (sz (habs σ h) 0)), vR (0, 0, h)]) (σ' := σ1) fl1_ok [(7, .istore_n 2), (8, .aload_n 0), (9, .getfield 16), (12, .iload_n 2), (13, .iconst 0), (14, .iload_n 1)] (by decide +kernel) rfl rfl ?_
  refine g_callV (0, 0, h) [vI (nI (sz (habs σ h) 0)), vI (0 : Int32), vI w] [] vl_RX1_36 mi_X3_write (ct_write l hWσ1.2.1 0 (by decide) (nI (sz (habs σ h) 0)) (0 : Int32) w) rfl rfl rfl rfl ⟨Nat.le_of_ble_eq_true rfl, Nat.le_of_ble_eq_true rfl⟩ rfl (Nat.le_of_ble_eq_true rfl) (by decide +kernel) (fun o σ2 hPσ2 => ?_)
  obtain ⟨rfl, hWσ2⟩ := hPσ2
  refine g_blk (pc' := 25) (loc' := [some (vR (2, 0, h)), some (vI w), some (vI (nI (sz (habs σ h) 0)))]) (st' := [vI (0 : Int32), vI (1 : Int32), vI (nI (sz (habs σ h) 0)), vR (0, 0, h)]) (σ' := σ2) fl1_ok [(18, .aload_n 0), (19, .getfield 16), (22, .iload_n 2), (23, .iconst 1), (24, .iconst 0)] (by decide +kernel) rfl rfl ?_
  refine g_callV (0, 0, h) [vI (nI (sz (habs σ h) 0)), vI (1 : Int32), vI (0 : Int32)] [] vl_RX1_36 mi_X3_write (ct_write l hWσ2.2.1 0 (by decide) (nI (sz (habs σ h) 0)) (1 : Int32) (0 : Int32)) rfl rfl rfl rfl ⟨Nat.le_of_ble_eq_true rfl, Nat.le_of_ble_eq_true rfl⟩ rfl (Nat.le_of_ble_eq_true rfl) (by decide +kernel) (fun o σ3 hPσ3 => ?_)
  obtain ⟨rfl, hWσ3⟩ := hPσ3
  refine g_blk (pc' := 35) (loc' := [some (vR (2, 0, h)), some (vI w), some (vI (nI (sz (habs σ h) 0)))]) (st' := [vI (-1 : Int32), vI (2 : Int32), vI (nI (sz (habs σ h) 0)), vR (0, 0, h)]) (σ' := σ3) fl1_ok [(28, .aload_n 0), (29, .getfield 16), (32, .iload_n 2), (33, .iconst 2), (34, .iconst (-1))] (by decide +kernel) rfl rfl ?_
  refine g_callV (0, 0, h) [vI (nI (sz (habs σ h) 0)), vI (2 : Int32), vI (-1 : Int32)] [] vl_RX1_36 mi_X3_write (ct_write l hWσ3.2.1 0 (by decide) (nI (sz (habs σ h) 0)) (2 : Int32) (-1 : Int32)) rfl rfl rfl rfl ⟨Nat.le_of_ble_eq_true rfl, Nat.le_of_ble_eq_true rfl⟩ rfl (Nat.le_of_ble_eq_true rfl) (by decide +kernel) (fun o σ4 hPσ4 => ?_)
  obtain ⟨rfl, hWσ4⟩ := hPσ4
  refine g_blk (pc' := 39) (loc' := [some (vR (2, 0, h)), some (vI w), some (vI (nI (sz (habs σ h) 0)))]) (st' := [vI (nI (sz (habs σ h) 0))]) (σ' := σ4) fl1_ok [(38, .iload_n 2)] (by decide +kernel) rfl rfl ?_
  exact g_iret (by decide +kernel) ⟨rfl, ⟨by rw [hWσ4.1, hWσ3.1, hWσ2.1, hWσ1.1] <;> rfl, hWσ4.2.1, (((hWσ1.2.2).tr hWσ2.2.2).tr hWσ3.2.2).tr hWσ4.2.2⟩⟩
set_option maxHeartbeats 2000000 in
theorem c_X1_addArea (l : Launch) {σ : Sg} {h : Nat} (e p g : Int32) (hH : HOK σ h) (hn : sz (habs σ h) 1 < 6) : Con l 2 yX1_addArea cX1_addArea 5 (some .int) [vR (2, 0, h), vI e, vI p, vI g] σ (fun o σ' => o = some (vI (nI (sz (habs σ h) 1))) ∧ HW h (addAreaS (habs σ h) e p g) σ σ') := by
  refine con_of pn_X1_addArea (Nat.le_of_ble_eq_true rfl) (fun hPK hok => ?_)
  show G l (Rm 2) RX1 cX1_addArea 5 (some .int) _ 0 [some (vR (2, 0, h)), some (vI e), some (vI p), some (vI g), none] [] σ
  refine g_blk (pc' := 4) (loc' := [some (vR (2, 0, h)), some (vI e), some (vI p), some (vI g), none]) (st' := [vR (0, 1, h)]) (σ' := σ) fl1_ok [(0, .aload_n 0), (1, .getfield 20)] (by decide +kernel) rfl rfl ?_
  refine g_callV (0, 1, h) [] [] vl_RX1_32 mi_X3_append (ct_append l hH 1 (by decide) hn) rfl rfl rfl rfl ⟨Nat.le_of_ble_eq_true rfl, Nat.le_of_ble_eq_true rfl⟩ rfl (Nat.le_of_ble_eq_true rfl) (by decide +kernel) (fun o σ1 hPσ1 => ?_)
  obtain ⟨rfl, hWσ1⟩ := hPσ1
  refine g_blk (pc' := 17) (loc' := [some (vR (2, 0, h)), some (vI e), some (vI p), some (vI g), some (vI (nI (sz (habs σ h) 1)))]) (st' := [vI e, vI (0 : Int32), vI (nI (sz (habs σ h) 1)), vR (0, 1, h)]) (σ' := σ1) fl1_ok [(7, .istore 4), (9, .aload_n 0), (10, .getfield 20), (13, .iload 4), (15, .iconst 0), (16, .iload_n 1)] (by decide +kernel) rfl rfl ?_
  refine g_callV (0, 1, h) [vI (nI (sz (habs σ h) 1)), vI (0 : Int32), vI e] [] vl_RX1_36 mi_X3_write (ct_write l hWσ1.2.1 1 (by decide) (nI (sz (habs σ h) 1)) (0 : Int32) e) rfl rfl rfl rfl ⟨Nat.le_of_ble_eq_true rfl, Nat.le_of_ble_eq_true rfl⟩ rfl (Nat.le_of_ble_eq_true rfl) (by decide +kernel) (fun o σ2 hPσ2 => ?_)
  obtain ⟨rfl, hWσ2⟩ := hPσ2
  refine g_blk (pc' := 28) (loc' := [some (vR (2, 0, h)), some (vI e), some (vI p), some (vI g), some (vI (nI (sz (habs σ h) 1)))]) (st' := [vI p, vI (1 : Int32), vI (nI (sz (habs σ h) 1)), vR (0, 1, h)]) (σ' := σ2) fl1_ok [(20, .aload_n 0), (21, .getfield 20), (24, .iload 4), (26, .iconst 1), (27, .iload_n 2)] (by decide +kernel) rfl rfl ?_
  refine g_callV (0, 1, h) [vI (nI (sz (habs σ h) 1)), vI (1 : Int32), vI p] [] vl_RX1_36 mi_X3_write (ct_write l hWσ2.2.1 1 (by decide) (nI (sz (habs σ h) 1)) (1 : Int32) p) rfl rfl rfl rfl ⟨Nat.le_of_ble_eq_true rfl, Nat.le_of_ble_eq_true rfl⟩ rfl (Nat.le_of_ble_eq_true rfl) (by decide +kernel) (fun o σ3 hPσ3 => ?_)
  obtain ⟨rfl, hWσ3⟩ := hPσ3
  refine g_blk (pc' := 39) (loc' := [some (vR (2, 0, h)), some (vI e), some (vI p), some (vI g), some (vI (nI (sz (habs σ h) 1)))]) (st' := [vI g, vI (2 : Int32), vI (nI (sz (habs σ h) 1)), vR (0, 1, h)]) (σ' := σ3) fl1_ok [(31, .aload_n 0), (32, .getfield 20), (35, .iload 4), (37, .iconst 2), (38, .iload_n 3)] (by decide +kernel) rfl rfl ?_
  refine g_callV (0, 1, h) [vI (nI (sz (habs σ h) 1)), vI (2 : Int32), vI g] [] vl_RX1_36 mi_X3_write (ct_write l hWσ3.2.1 1 (by decide) (nI (sz (habs σ h) 1)) (2 : Int32) g) rfl rfl rfl rfl ⟨Nat.le_of_ble_eq_true rfl, Nat.le_of_ble_eq_true rfl⟩ rfl (Nat.le_of_ble_eq_true rfl) (by decide +kernel) (fun o σ4 hPσ4 => ?_)
  obtain ⟨rfl, hWσ4⟩ := hPσ4
  refine g_blk (pc' := 44) (loc' := [some (vR (2, 0, h)), some (vI e), some (vI p), some (vI g), some (vI (nI (sz (habs σ h) 1)))]) (st' := [vI (nI (sz (habs σ h) 1))]) (σ' := σ4) fl1_ok [(42, .iload 4)] (by decide +kernel) rfl rfl ?_
  exact g_iret (by decide +kernel) ⟨rfl, ⟨by rw [hWσ4.1, hWσ3.1, hWσ2.1, hWσ1.1] <;> rfl, hWσ4.2.1, (((hWσ1.2.2).tr hWσ2.2.2).tr hWσ3.2.2).tr hWσ4.2.2⟩⟩
set_option maxHeartbeats 2000000 in
theorem c_X1_addTask (l : Launch) {σ : Sg} {h : Nat} (a e d : Int32) (hH : HOK σ h) (hn : sz (habs σ h) 2 < 12) : Con l 2 yX1_addTask cX1_addTask 5 none [vR (2, 0, h), vI a, vI e, vI d] σ (fun o σ' => o = none ∧ HW h (addTS (habs σ h) a e d) σ σ') := by
  refine con_of pn_X1_addTask (Nat.le_of_ble_eq_true rfl) (fun hPK hok => ?_)
  show G l (Rm 2) RX1 cX1_addTask 5 none _ 0 [some (vR (2, 0, h)), some (vI a), some (vI e), some (vI d), none] [] σ
  refine g_blk (pc' := 4) (loc' := [some (vR (2, 0, h)), some (vI a), some (vI e), some (vI d), none]) (st' := [vR (0, 2, h)]) (σ' := σ) fl1_ok [(0, .aload_n 0), (1, .getfield 23)] (by decide +kernel) rfl rfl ?_
  refine g_callV (0, 2, h) [] [] vl_RX1_32 mi_X3_append (ct_append l hH 2 (by decide) hn) rfl rfl rfl rfl ⟨Nat.le_of_ble_eq_true rfl, Nat.le_of_ble_eq_true rfl⟩ rfl (Nat.le_of_ble_eq_true rfl) (by decide +kernel) (fun o σ1 hPσ1 => ?_)
  obtain ⟨rfl, hWσ1⟩ := hPσ1
  refine g_blk (pc' := 17) (loc' := [some (vR (2, 0, h)), some (vI a), some (vI e), some (vI d), some (vI (nI (sz (habs σ h) 2)))]) (st' := [vI a, vI (0 : Int32), vI (nI (sz (habs σ h) 2)), vR (0, 2, h)]) (σ' := σ1) fl1_ok [(7, .istore 4), (9, .aload_n 0), (10, .getfield 23), (13, .iload 4), (15, .iconst 0), (16, .iload_n 1)] (by decide +kernel) rfl rfl ?_
  refine g_callV (0, 2, h) [vI (nI (sz (habs σ h) 2)), vI (0 : Int32), vI a] [] vl_RX1_36 mi_X3_write (ct_write l hWσ1.2.1 2 (by decide) (nI (sz (habs σ h) 2)) (0 : Int32) a) rfl rfl rfl rfl ⟨Nat.le_of_ble_eq_true rfl, Nat.le_of_ble_eq_true rfl⟩ rfl (Nat.le_of_ble_eq_true rfl) (by decide +kernel) (fun o σ2 hPσ2 => ?_)
  obtain ⟨rfl, hWσ2⟩ := hPσ2
  refine g_blk (pc' := 28) (loc' := [some (vR (2, 0, h)), some (vI a), some (vI e), some (vI d), some (vI (nI (sz (habs σ h) 2)))]) (st' := [vI e, vI (2 : Int32), vI (nI (sz (habs σ h) 2)), vR (0, 2, h)]) (σ' := σ2) fl1_ok [(20, .aload_n 0), (21, .getfield 23), (24, .iload 4), (26, .iconst 2), (27, .iload_n 2)] (by decide +kernel) rfl rfl ?_
  refine g_callV (0, 2, h) [vI (nI (sz (habs σ h) 2)), vI (2 : Int32), vI e] [] vl_RX1_36 mi_X3_write (ct_write l hWσ2.2.1 2 (by decide) (nI (sz (habs σ h) 2)) (2 : Int32) e) rfl rfl rfl rfl ⟨Nat.le_of_ble_eq_true rfl, Nat.le_of_ble_eq_true rfl⟩ rfl (Nat.le_of_ble_eq_true rfl) (by decide +kernel) (fun o σ3 hPσ3 => ?_)
  obtain ⟨rfl, hWσ3⟩ := hPσ3
  refine g_blk (pc' := 39) (loc' := [some (vR (2, 0, h)), some (vI a), some (vI e), some (vI d), some (vI (nI (sz (habs σ h) 2)))]) (st' := [vI d, vI (4 : Int32), vI (nI (sz (habs σ h) 2)), vR (0, 2, h)]) (σ' := σ3) fl1_ok [(31, .aload_n 0), (32, .getfield 23), (35, .iload 4), (37, .iconst 4), (38, .iload_n 3)] (by decide +kernel) rfl rfl ?_
  refine g_callNp (idx := 104) [vI d] [vI (4 : Int32), vI (nI (sz (habs σ h) 2)), vR (0, 2, h)] (by decide +kernel) nl_X4_bit mi_X4_bit (c_X4_bit l d) rfl ⟨Nat.le_of_ble_eq_true rfl, Nat.le_of_ble_eq_true rfl⟩ rfl (Nat.le_of_ble_eq_true rfl) (by decide +kernel) ?_
  refine g_callV (0, 2, h) [vI (nI (sz (habs σ h) 2)), vI (4 : Int32), vI (bitS d)] [] vl_RX1_36 mi_X3_write (ct_write l hWσ3.2.1 2 (by decide) (nI (sz (habs σ h) 2)) (4 : Int32) (bitS d)) rfl rfl rfl rfl ⟨Nat.le_of_ble_eq_true rfl, Nat.le_of_ble_eq_true rfl⟩ rfl (Nat.le_of_ble_eq_true rfl) (by decide +kernel) (fun o σ4 hPσ4 => ?_)
  obtain ⟨rfl, hWσ4⟩ := hPσ4
  exact g_vret (by decide +kernel) ⟨rfl, ⟨by rw [hWσ4.1, hWσ3.1, hWσ2.1, hWσ1.1] <;> rfl, hWσ4.2.1, (((hWσ1.2.2).tr hWσ2.2.2).tr hWσ3.2.2).tr hWσ4.2.2⟩⟩
set_option maxHeartbeats 2000000 in
theorem c_X1_addSwap (l : Launch) {σ : Sg} {h : Nat} (a b : Int32) (hH : HOK σ h) (hn : sz (habs σ h) 3 < 6) : Con l 2 yX1_addSwap cX1_addSwap 4 (some .int) [vR (2, 0, h), vI a, vI b] σ (fun o σ' => o = some (vI (nI (sz (addSwS (habs σ h) a b) 3))) ∧ HW h (addSwS (habs σ h) a b) σ σ') := by
  refine con_of pn_X1_addSwap (Nat.le_of_ble_eq_true rfl) (fun hPK hok => ?_)
  show G l (Rm 2) RX1 cX1_addSwap 4 (some .int) _ 0 [some (vR (2, 0, h)), some (vI a), some (vI b), none] [] σ
  refine g_blk (pc' := 4) (loc' := [some (vR (2, 0, h)), some (vI a), some (vI b), none]) (st' := [vR (0, 3, h)]) (σ' := σ) fl1_ok [(0, .aload_n 0), (1, .getfield 26)] (by decide +kernel) rfl rfl ?_
  refine g_callV (0, 3, h) [] [] vl_RX1_32 mi_X3_append (ct_append l hH 3 (by decide) hn) rfl rfl rfl rfl ⟨Nat.le_of_ble_eq_true rfl, Nat.le_of_ble_eq_true rfl⟩ rfl (Nat.le_of_ble_eq_true rfl) (by decide +kernel) (fun o σ1 hPσ1 => ?_)
  obtain ⟨rfl, hWσ1⟩ := hPσ1
  refine g_blk (pc' := 15) (loc' := [some (vR (2, 0, h)), some (vI a), some (vI b), some (vI (nI (sz (habs σ h) 3)))]) (st' := [vI a, vI (0 : Int32), vI (nI (sz (habs σ h) 3)), vR (0, 3, h)]) (σ' := σ1) fl1_ok [(7, .istore_n 3), (8, .aload_n 0), (9, .getfield 26), (12, .iload_n 3), (13, .iconst 0), (14, .iload_n 1)] (by decide +kernel) rfl rfl ?_
  refine g_callV (0, 3, h) [vI (nI (sz (habs σ h) 3)), vI (0 : Int32), vI a] [] vl_RX1_36 mi_X3_write (ct_write l hWσ1.2.1 3 (by decide) (nI (sz (habs σ h) 3)) (0 : Int32) a) rfl rfl rfl rfl ⟨Nat.le_of_ble_eq_true rfl, Nat.le_of_ble_eq_true rfl⟩ rfl (Nat.le_of_ble_eq_true rfl) (by decide +kernel) (fun o σ2 hPσ2 => ?_)
  obtain ⟨rfl, hWσ2⟩ := hPσ2
  refine g_blk (pc' := 25) (loc' := [some (vR (2, 0, h)), some (vI a), some (vI b), some (vI (nI (sz (habs σ h) 3)))]) (st' := [vI b, vI (1 : Int32), vI (nI (sz (habs σ h) 3)), vR (0, 3, h)]) (σ' := σ2) fl1_ok [(18, .aload_n 0), (19, .getfield 26), (22, .iload_n 3), (23, .iconst 1), (24, .iload_n 2)] (by decide +kernel) rfl rfl ?_
  refine g_callV (0, 3, h) [vI (nI (sz (habs σ h) 3)), vI (1 : Int32), vI b] [] vl_RX1_36 mi_X3_write (ct_write l hWσ2.2.1 3 (by decide) (nI (sz (habs σ h) 3)) (1 : Int32) b) rfl rfl rfl rfl ⟨Nat.le_of_ble_eq_true rfl, Nat.le_of_ble_eq_true rfl⟩ rfl (Nat.le_of_ble_eq_true rfl) (by decide +kernel) (fun o σ3 hPσ3 => ?_)
  obtain ⟨rfl, hWσ3⟩ := hPσ3
  refine g_blk (pc' := 32) (loc' := [some (vR (2, 0, h)), some (vI a), some (vI b), some (vI (nI (sz (habs σ h) 3)))]) (st' := [vR (0, 3, h)]) (σ' := σ3) fl1_ok [(28, .aload_n 0), (29, .getfield 26)] (by decide +kernel) rfl rfl ?_
  refine g_callVp (0, 3, h) [] [] vl_RX1_66 mi_X3_size (ct_size l hWσ3.2.1 3 (by decide)) rfl rfl rfl rfl ⟨Nat.le_of_ble_eq_true rfl, Nat.le_of_ble_eq_true rfl⟩ rfl (Nat.le_of_ble_eq_true rfl) (by decide +kernel) ?_
  exact g_iret (by decide +kernel) ⟨by rw [hWσ3.1, hWσ2.1, hWσ1.1] <;> rfl, ⟨by rw [hWσ3.1, hWσ2.1, hWσ1.1] <;> rfl, hWσ3.2.1, ((hWσ1.2.2).tr hWσ2.2.2).tr hWσ3.2.2⟩⟩
set_option maxHeartbeats 2000000 in
theorem c_X1_declineSwap (l : Launch) {σ : Sg} {h r : Nat} (hH : HOK σ h) (hn : r < sz (habs σ h) 3) : Con l 2 yX1_declineSwap cX1_declineSwap 2 (some .int) [vR (2, 0, h), vI (nI r)] σ (fun o σ' => o = some (vI (nI (sz (habs σ h) 3 - 1))) ∧ HW h (setT (habs σ h) 3 (trem ((habs σ h).1 3) r)) σ σ') := by
  refine con_of pn_X1_declineSwap (Nat.le_of_ble_eq_true rfl) (fun hPK hok => ?_)
  show G l (Rm 2) RX1 cX1_declineSwap 2 (some .int) _ 0 [some (vR (2, 0, h)), some (vI (nI r))] [] σ
  refine g_blk (pc' := 5) (loc' := [some (vR (2, 0, h)), some (vI (nI r))]) (st' := [vI (nI r), vR (0, 3, h)]) (σ' := σ) fl1_ok [(0, .aload_n 0), (1, .getfield 26), (4, .iload_n 1)] (by decide +kernel) rfl rfl ?_
  refine g_callV (0, 3, h) [vI (nI r)] [] vl_RX1_164 mi_X3_remove (ct_remove l hH 3 (by decide) hn) rfl rfl rfl rfl ⟨Nat.le_of_ble_eq_true rfl, Nat.le_of_ble_eq_true rfl⟩ rfl (Nat.le_of_ble_eq_true rfl) (by decide +kernel) (fun o σ1 hPσ1 => ?_)
  obtain ⟨rfl, hWσ1⟩ := hPσ1
  refine g_blk (pc' := 12) (loc' := [some (vR (2, 0, h)), some (vI (nI r))]) (st' := [vR (0, 3, h)]) (σ' := σ1) fl1_ok [(8, .aload_n 0), (9, .getfield 26)] (by decide +kernel) rfl rfl ?_
  refine g_callVp (0, 3, h) [] [] vl_RX1_66 mi_X3_size (ct_size l hWσ1.2.1 3 (by decide)) rfl rfl rfl rfl ⟨Nat.le_of_ble_eq_true rfl, Nat.le_of_ble_eq_true rfl⟩ rfl (Nat.le_of_ble_eq_true rfl) (by decide +kernel) ?_
  exact g_iret (by decide +kernel) ⟨by rw [hWσ1.1] <;> rfl, ⟨by rw [hWσ1.1] <;> rfl, hWσ1.2.1, hWσ1.2.2⟩⟩
set_option maxHeartbeats 2000000 in
theorem c_X1_payDebt (l : Launch) {σ : Sg} {h : Nat} (r a : Int32) (hH : HOK σ h) : Con l 3 yX1_payDebt cX1_payDebt 4 (some .int) [vR (2, 0, h), vI r, vI a] σ (fun o σ' => o = some (vI (cl (payS (habs σ h) r a) 0 r 4)) ∧ HW h (payS (habs σ h) r a) σ σ') := by
  refine con_of pn_X1_payDebt (Nat.le_of_ble_eq_true rfl) (fun hPK hok => ?_)
  show G l (Rm 3) RX1 cX1_payDebt 4 (some .int) _ 0 [some (vR (2, 0, h)), some (vI r), some (vI a), none] [] σ
  refine g_blk (pc' := 6) (loc' := [some (vR (2, 0, h)), some (vI r), some (vI a), none]) (st' := [vI (0 : Int32), vI a, vR (0, 1, h)]) (σ' := σ) fl1_ok [(0, .aload_n 0), (1, .getfield 20), (4, .iload_n 2), (5, .iconst 0)] (by decide +kernel) rfl rfl ?_
  refine g_callVp (0, 1, h) [vI a, vI (0 : Int32)] [] vl_RX1_58 mi_X3_cell (ct_cell l hH 1 (by decide) a (0 : Int32)) rfl rfl rfl rfl ⟨Nat.le_of_ble_eq_true rfl, Nat.le_of_ble_eq_true rfl⟩ rfl (Nat.le_of_ble_eq_true rfl) (by decide +kernel) ?_
  refine g_blk (pc' := 15) (loc' := [some (vR (2, 0, h)), some (vI r), some (vI a), none]) (st' := [vI (4 : Int32), vI r, vR (0, 0, h), vI (cl (habs σ h) 1 a (0 : Int32))]) (σ' := σ) fl1_ok [(9, .aload_n 0), (10, .getfield 16), (13, .iload_n 1), (14, .iconst 4)] (by decide +kernel) rfl rfl ?_
  refine g_callVp (0, 0, h) [vI r, vI (4 : Int32)] [vI (cl (habs σ h) 1 a (0 : Int32))] vl_RX1_58 mi_X3_cell (ct_cell l hH 0 (by decide) r (4 : Int32)) rfl rfl rfl rfl ⟨Nat.le_of_ble_eq_true rfl, Nat.le_of_ble_eq_true rfl⟩ rfl (Nat.le_of_ble_eq_true rfl) (by decide +kernel) ?_
  refine g_min jl_RX1_146 ⟨Nat.le_of_ble_eq_true rfl, Nat.le_of_ble_eq_true rfl⟩ (by decide +kernel) ?_
  refine g_blk (pc' := 30) (loc' := [some (vR (2, 0, h)), some (vI r), some (vI a), some (vI (if (cl (habs σ h) 0 r (4 : Int32)) < (cl (habs σ h) 1 a (0 : Int32)) then (cl (habs σ h) 0 r (4 : Int32)) else (cl (habs σ h) 1 a (0 : Int32))))]) (st' := [vI (-(if (cl (habs σ h) 0 r (4 : Int32)) < (cl (habs σ h) 1 a (0 : Int32)) then (cl (habs σ h) 0 r (4 : Int32)) else (cl (habs σ h) 1 a (0 : Int32)))), vI (4 : Int32), vI r, vR (0, 0, h)]) (σ' := σ) fl1_ok [(21, .istore_n 3), (22, .aload_n 0), (23, .getfield 16), (26, .iload_n 1), (27, .iconst 4), (28, .iload_n 3), (29, .ineg)] (by decide +kernel) rfl rfl ?_
  refine g_callV (0, 0, h) [vI r, vI (4 : Int32), vI (-(if (cl (habs σ h) 0 r (4 : Int32)) < (cl (habs σ h) 1 a (0 : Int32)) then (cl (habs σ h) 0 r (4 : Int32)) else (cl (habs σ h) 1 a (0 : Int32))))] [] vl_RX1_74 mi_X3_increase (ct_increase l hH 0 (by decide) r (4 : Int32) (-(if (cl (habs σ h) 0 r (4 : Int32)) < (cl (habs σ h) 1 a (0 : Int32)) then (cl (habs σ h) 0 r (4 : Int32)) else (cl (habs σ h) 1 a (0 : Int32))))) rfl rfl rfl rfl ⟨Nat.le_of_ble_eq_true rfl, Nat.le_of_ble_eq_true rfl⟩ rfl (Nat.le_of_ble_eq_true rfl) (by decide +kernel) (fun o σ1 hPσ1 => ?_)
  obtain ⟨rfl, hWσ1⟩ := hPσ1
  refine g_blk (pc' := 40) (loc' := [some (vR (2, 0, h)), some (vI r), some (vI a), some (vI (if (cl (habs σ h) 0 r (4 : Int32)) < (cl (habs σ h) 1 a (0 : Int32)) then (cl (habs σ h) 0 r (4 : Int32)) else (cl (habs σ h) 1 a (0 : Int32))))]) (st' := [vI (if (cl (habs σ h) 0 r (4 : Int32)) < (cl (habs σ h) 1 a (0 : Int32)) then (cl (habs σ h) 0 r (4 : Int32)) else (cl (habs σ h) 1 a (0 : Int32))), vI (3 : Int32), vI r, vR (0, 0, h)]) (σ' := σ1) fl1_ok [(33, .aload_n 0), (34, .getfield 16), (37, .iload_n 1), (38, .iconst 3), (39, .iload_n 3)] (by decide +kernel) rfl rfl ?_
  refine g_callV (0, 0, h) [vI r, vI (3 : Int32), vI (if (cl (habs σ h) 0 r (4 : Int32)) < (cl (habs σ h) 1 a (0 : Int32)) then (cl (habs σ h) 0 r (4 : Int32)) else (cl (habs σ h) 1 a (0 : Int32)))] [] vl_RX1_74 mi_X3_increase (ct_increase l hWσ1.2.1 0 (by decide) r (3 : Int32) (if (cl (habs σ h) 0 r (4 : Int32)) < (cl (habs σ h) 1 a (0 : Int32)) then (cl (habs σ h) 0 r (4 : Int32)) else (cl (habs σ h) 1 a (0 : Int32)))) rfl rfl rfl rfl ⟨Nat.le_of_ble_eq_true rfl, Nat.le_of_ble_eq_true rfl⟩ rfl (Nat.le_of_ble_eq_true rfl) (by decide +kernel) (fun o σ2 hPσ2 => ?_)
  obtain ⟨rfl, hWσ2⟩ := hPσ2
  refine g_blk (pc' := 45) (loc' := [some (vR (2, 0, h)), some (vI r), some (vI a), some (vI (if (cl (habs σ h) 0 r (4 : Int32)) < (cl (habs σ h) 1 a (0 : Int32)) then (cl (habs σ h) 0 r (4 : Int32)) else (cl (habs σ h) 1 a (0 : Int32))))]) (st' := [vI a, vR (2, 0, h)]) (σ' := σ2) fl1_ok [(43, .aload_n 0), (44, .iload_n 2)] (by decide +kernel) rfl rfl ?_
  refine g_callV (2, 0, h) [vI a] [] vl_RX1_133 mi_X1_clean (c_X1_clean l a hWσ2.2.1) rfl rfl rfl rfl ⟨Nat.le_of_ble_eq_true rfl, Nat.le_of_ble_eq_true rfl⟩ rfl (Nat.le_of_ble_eq_true rfl) (by decide +kernel) (fun o σ3 hPσ3 => ?_)
  obtain ⟨rfl, hWσ3⟩ := hPσ3
  refine g_blk (pc' := 54) (loc' := [some (vR (2, 0, h)), some (vI r), some (vI a), some (vI (if (cl (habs σ h) 0 r (4 : Int32)) < (cl (habs σ h) 1 a (0 : Int32)) then (cl (habs σ h) 0 r (4 : Int32)) else (cl (habs σ h) 1 a (0 : Int32))))]) (st' := [vI (4 : Int32), vI r, vR (0, 0, h)]) (σ' := σ3) fl1_ok [(48, .aload_n 0), (49, .getfield 16), (52, .iload_n 1), (53, .iconst 4)] (by decide +kernel) rfl rfl ?_
  refine g_callVp (0, 0, h) [vI r, vI (4 : Int32)] [] vl_RX1_58 mi_X3_cell (ct_cell l hWσ3.2.1 0 (by decide) r (4 : Int32)) rfl rfl rfl rfl ⟨Nat.le_of_ble_eq_true rfl, Nat.le_of_ble_eq_true rfl⟩ rfl (Nat.le_of_ble_eq_true rfl) (by decide +kernel) ?_
  exact g_iret (by decide +kernel) ⟨by rw [hWσ3.1, hWσ2.1, hWσ1.1] <;> rfl, ⟨by rw [hWσ3.1, hWσ2.1, hWσ1.1] <;> rfl, hWσ3.2.1, ((hWσ1.2.2).tr hWσ2.2.2).tr hWσ3.2.2⟩⟩
set_option maxHeartbeats 2000000 in
theorem c_X1_skip (l : Launch) {σ : Sg} {h : Nat} (t : Int32) (hH : HOK σ h) : Con l 2 yX1_skip cX1_skip 4 none [vR (2, 0, h), vI t] σ (fun o σ' => o = none ∧ HW h (skipS (habs σ h) t) σ σ') := by
  refine con_of pn_X1_skip (Nat.le_of_ble_eq_true rfl) (fun hPK hok => ?_)
  show G l (Rm 2) RX1 cX1_skip 4 none _ 0 [some (vR (2, 0, h)), some (vI t), none, none] [] σ
  refine g_blk (pc' := 6) (loc' := [some (vR (2, 0, h)), some (vI t), none, none]) (st' := [vI (2 : Int32), vI t, vR (0, 2, h)]) (σ' := σ) fl1_ok [(0, .aload_n 0), (1, .getfield 23), (4, .iload_n 1), (5, .iconst 2)] (by decide +kernel) rfl rfl ?_
  refine g_callVp (0, 2, h) [vI t, vI (2 : Int32)] [] vl_RX1_58 mi_X3_cell (ct_cell l hH 2 (by decide) t (2 : Int32)) rfl rfl rfl rfl ⟨Nat.le_of_ble_eq_true rfl, Nat.le_of_ble_eq_true rfl⟩ rfl (Nat.le_of_ble_eq_true rfl) (by decide +kernel) ?_
  refine g_blk (pc' := 16) (loc' := [some (vR (2, 0, h)), some (vI t), some (vI (cl (habs σ h) 2 t (2 : Int32))), none]) (st' := [vI (1 : Int32), vI t, vR (0, 2, h)]) (σ' := σ) fl1_ok [(9, .istore_n 2), (10, .aload_n 0), (11, .getfield 23), (14, .iload_n 1), (15, .iconst 1)] (by decide +kernel) rfl rfl ?_
  refine g_callVp (0, 2, h) [vI t, vI (1 : Int32)] [] vl_RX1_58 mi_X3_cell (ct_cell l hH 2 (by decide) t (1 : Int32)) rfl rfl rfl rfl ⟨Nat.le_of_ble_eq_true rfl, Nat.le_of_ble_eq_true rfl⟩ rfl (Nat.le_of_ble_eq_true rfl) (by decide +kernel) ?_
  refine g_blk (pc' := 30) (loc' := [some (vR (2, 0, h)), some (vI t), some (vI (cl (habs σ h) 2 t (2 : Int32))), some (vI (cl (habs σ h) 2 t (1 : Int32)))]) (st' := []) (σ' := (upd2 σ.1 (2, 0, h) 8 (((habs σ h).2 8) + (1 : Int32)), σ.2)) fl1_ok [(19, .istore_n 3), (20, .aload_n 0), (21, .dup), (22, .getfield 55), (25, .iconst 1), (26, .iadd), (27, .putfield 55)] (by decide +kernel) rfl rfl ?_
  generalize hσ1 : ((upd2 σ.1 (2, 0, h) 8 (((habs σ h).2 8) + (1 : Int32)), σ.2) : Sg) = σ1
  have hWσ1 := hw_F hH (by decide) hσ1
  refine g_blk (pc' := 39) (loc' := [some (vR (2, 0, h)), some (vI t), some (vI (cl (habs σ h) 2 t (2 : Int32))), some (vI (cl (habs σ h) 2 t (1 : Int32)))]) (st' := [vI (-(cl (habs σ h) 2 t (2 : Int32))), vI (6 : Int32), vI (cl (habs σ h) 2 t (1 : Int32)), vR (0, 0, h)]) (σ' := σ1) fl1_ok [(30, .aload_n 0), (31, .getfield 16), (34, .iload_n 3), (35, .bipush 6), (37, .iload_n 2), (38, .ineg)] (by decide +kernel) rfl rfl ?_
  refine g_callV (0, 0, h) [vI (cl (habs σ h) 2 t (1 : Int32)), vI (6 : Int32), vI (-(cl (habs σ h) 2 t (2 : Int32)))] [] vl_RX1_74 mi_X3_increase (ct_increase l hWσ1.2.1 0 (by decide) (cl (habs σ h) 2 t (1 : Int32)) (6 : Int32) (-(cl (habs σ h) 2 t (2 : Int32)))) rfl rfl rfl rfl ⟨Nat.le_of_ble_eq_true rfl, Nat.le_of_ble_eq_true rfl⟩ rfl (Nat.le_of_ble_eq_true rfl) (by decide +kernel) (fun o σ2 hPσ2 => ?_)
  obtain ⟨rfl, hWσ2⟩ := hPσ2
  refine g_blk (pc' := 49) (loc' := [some (vR (2, 0, h)), some (vI t), some (vI (cl (habs σ h) 2 t (2 : Int32))), some (vI (cl (habs σ h) 2 t (1 : Int32)))]) (st' := [vI (cl (habs σ h) 2 t (2 : Int32)), vI (4 : Int32), vI (cl (habs σ h) 2 t (1 : Int32)), vR (0, 0, h)]) (σ' := σ2) fl1_ok [(42, .aload_n 0), (43, .getfield 16), (46, .iload_n 3), (47, .iconst 4), (48, .iload_n 2)] (by decide +kernel) rfl rfl ?_
  refine g_callV (0, 0, h) [vI (cl (habs σ h) 2 t (1 : Int32)), vI (4 : Int32), vI (cl (habs σ h) 2 t (2 : Int32))] [] vl_RX1_74 mi_X3_increase (ct_increase l hWσ2.2.1 0 (by decide) (cl (habs σ h) 2 t (1 : Int32)) (4 : Int32) (cl (habs σ h) 2 t (2 : Int32))) rfl rfl rfl rfl ⟨Nat.le_of_ble_eq_true rfl, Nat.le_of_ble_eq_true rfl⟩ rfl (Nat.le_of_ble_eq_true rfl) (by decide +kernel) (fun o σ3 hPσ3 => ?_)
  obtain ⟨rfl, hWσ3⟩ := hPσ3
  refine g_blk (pc' := 64) (loc' := [some (vR (2, 0, h)), some (vI t), some (vI (cl (habs σ h) 2 t (2 : Int32))), some (vI (cl (habs σ h) 2 t (1 : Int32)))]) (st' := [vI (0 : Int32), vI (0 : Int32), vR (0, 4, h), vI (5 : Int32), vI (cl (habs σ h) 2 t (1 : Int32)), vR (0, 0, h)]) (σ' := σ3) fl1_ok [(52, .aload_n 0), (53, .getfield 16), (56, .iload_n 3), (57, .iconst 5), (58, .aload_n 0), (59, .getfield 29), (62, .iconst 0), (63, .iconst 0)] (by decide +kernel) rfl rfl ?_
  refine g_callVp (0, 4, h) [vI (0 : Int32), vI (0 : Int32)] [vI (5 : Int32), vI (cl (habs σ h) 2 t (1 : Int32)), vR (0, 0, h)] vl_RX1_58 mi_X3_cell (ct_cell l hWσ3.2.1 4 (by decide) (0 : Int32) (0 : Int32)) rfl rfl rfl rfl ⟨Nat.le_of_ble_eq_true rfl, Nat.le_of_ble_eq_true rfl⟩ rfl (Nat.le_of_ble_eq_true rfl) (by decide +kernel) ?_
  refine g_callV (0, 0, h) [vI (cl (habs σ h) 2 t (1 : Int32)), vI (5 : Int32), vI (cl (habs σ3 h) 4 (0 : Int32) (0 : Int32))] [] vl_RX1_74 mi_X3_increase (ct_increase l hWσ3.2.1 0 (by decide) (cl (habs σ h) 2 t (1 : Int32)) (5 : Int32) (cl (habs σ3 h) 4 (0 : Int32) (0 : Int32))) rfl rfl rfl rfl ⟨Nat.le_of_ble_eq_true rfl, Nat.le_of_ble_eq_true rfl⟩ rfl (Nat.le_of_ble_eq_true rfl) (by decide +kernel) (fun o σ4 hPσ4 => ?_)
  obtain ⟨rfl, hWσ4⟩ := hPσ4
  exact g_vret (by decide +kernel) ⟨rfl, ⟨by rw [hWσ4.1, hWσ3.1, hWσ2.1, hWσ1.1] <;> rfl, hWσ4.2.1, (((hWσ1.2.2).tr hWσ2.2.2).tr hWσ3.2.2).tr hWσ4.2.2⟩⟩
set_option maxHeartbeats 2000000 in
theorem lp_X1_drop (l : Launch) {σ0 : Sg} {h : Nat} {S0 : HA} {Tf : TV} (t : Int32) : ∀ (k : Nat) (σ : Sg) (T : TV), HOK σ h → habs σ h = setT S0 3 T → k ≤ T.1 → T.1 ≤ 6 → dropT t k T = Tf → FrH h σ0 σ → G l (Rm 2) RX1 cX1_dropSwapsWith 3 none (fun o σ' => o = none ∧ HW h (setT S0 3 Tf) σ0 σ') 10 [some (vR (2, 0, h)), some (vI t), some (vI (nI k - 1))] [] σ := by
  intro k
  induction k with
  | zero =>
    intro σ T hH hS hk h6 hd hF
    refine g_blk (pc' := 11) (loc' := [some (vR (2, 0, h)), some (vI t), some (vI (nI 0 - 1))]) (st' := [vI (nI 0 - 1)]) (σ' := σ) fl1_ok [(10, .iload_n 2)] (by decide +kernel) rfl rfl ?_
    refine g_if_lt (off := 43) (tgt := 54) (by decide +kernel) (by decide) (fun zc11 => ?_) (fun zc11 => ?_)
    · exact g_vret (by decide +kernel) ⟨rfl, by rw [hS, ← hd]; rfl, hH, hF⟩
    · exact absurd (by decide) zc11
  | succ k ih =>
    intro σ T hH hS hk h6 hd hF
    rw [nI_pred]
    have hT3 : (habs σ h).1 3 = T := by rw [hS]; exact setT_at S0 3 T
    refine g_blk (pc' := 11) (loc' := [some (vR (2, 0, h)), some (vI t), some (vI (nI k))]) (st' := [vI (nI k)]) (σ' := σ) fl1_ok [(10, .iload_n 2)] (by decide +kernel) rfl rfl ?_
    refine g_if_lt (off := 43) (tgt := 54) (by decide +kernel) (by decide) (fun zc11 => ?_) (fun zc11 => ?_)
    · exact absurd zc11 (nI_pos (by omega))
    · refine g_blk (pc' := 20) (loc' := [some (vR (2, 0, h)), some (vI t), some (vI (nI k))]) (st' := [vI (0 : Int32), vI (nI k), vR (0, 3, h)]) (σ' := σ) fl1_ok [(14, .aload_n 0), (15, .getfield 26), (18, .iload_n 2), (19, .iconst 0)] (by decide +kernel) rfl rfl ?_
      refine g_callVp (0, 3, h) [vI (nI k), vI (0 : Int32)] [] vl_RX1_58 mi_X3_cell (ct_cell l hH 3 (by decide) (nI k) (0 : Int32)) rfl rfl rfl rfl ⟨Nat.le_of_ble_eq_true rfl, Nat.le_of_ble_eq_true rfl⟩ rfl (Nat.le_of_ble_eq_true rfl) (by decide +kernel) ?_
      refine g_blk (pc' := 24) (loc' := [some (vR (2, 0, h)), some (vI t), some (vI (nI k))]) (st' := [vI t, vI (cl (habs σ h) 3 (nI k) (0 : Int32))]) (σ' := σ) fl1_ok [(23, .iload_n 1)] (by decide +kernel) rfl rfl ?_
      refine g_icmp_eq (off := 16) (tgt := 40) (by decide +kernel) (by decide) (fun zc24 => ?_) (fun zc24 => ?_)
      · refine g_blk (pc' := 45) (loc' := [some (vR (2, 0, h)), some (vI t), some (vI (nI k))]) (st' := [vI (nI k), vR (0, 3, h)]) (σ' := σ) fl1_ok [(40, .aload_n 0), (41, .getfield 26), (44, .iload_n 2)] (by decide +kernel) rfl rfl ?_
        refine g_callV (0, 3, h) [vI (nI k)] [] vl_RX1_164 mi_X3_remove (ct_remove l hH 3 (by decide) (show k < sz (habs σ h) 3 by rw [sz, hT3]; omega)) rfl rfl rfl rfl ⟨Nat.le_of_ble_eq_true rfl, Nat.le_of_ble_eq_true rfl⟩ rfl (Nat.le_of_ble_eq_true rfl) (by decide +kernel) (fun o σ1 hPσ1 => ?_)
        obtain ⟨rfl, hWσ1⟩ := hPσ1
        refine g_blk (pc' := 10) (loc' := [some (vR (2, 0, h)), some (vI t), some (vI ((nI k) + (-1 : Int32)))]) (st' := []) (σ' := σ1) fl1_ok [(48, .iinc 2 (-1)), (51, .goto (-41))] (by decide +kernel) rfl rfl ?_
        rw [im1]
        rw [cl, hT3] at zc24
        rw [dropT, if_pos zc24] at hd
        exact ih σ1 (trem T k) hWσ1.2.1 (by rw [hWσ1.1, hT3, hS, setT_tw]) (by show k ≤ T.1 - 1; omega) (by show T.1 - 1 ≤ 6; omega) hd (hF.tr (hWσ1.2.2))
      · refine g_blk (pc' := 33) (loc' := [some (vR (2, 0, h)), some (vI t), some (vI (nI k))]) (st' := [vI (1 : Int32), vI (nI k), vR (0, 3, h)]) (σ' := σ) fl1_ok [(27, .aload_n 0), (28, .getfield 26), (31, .iload_n 2), (32, .iconst 1)] (by decide +kernel) rfl rfl ?_
        refine g_callVp (0, 3, h) [vI (nI k), vI (1 : Int32)] [] vl_RX1_58 mi_X3_cell (ct_cell l hH 3 (by decide) (nI k) (1 : Int32)) rfl rfl rfl rfl ⟨Nat.le_of_ble_eq_true rfl, Nat.le_of_ble_eq_true rfl⟩ rfl (Nat.le_of_ble_eq_true rfl) (by decide +kernel) ?_
        refine g_blk (pc' := 37) (loc' := [some (vR (2, 0, h)), some (vI t), some (vI (nI k))]) (st' := [vI t, vI (cl (habs σ h) 3 (nI k) (1 : Int32))]) (σ' := σ) fl1_ok [(36, .iload_n 1)] (by decide +kernel) rfl rfl ?_
        refine g_icmp_ne (off := 11) (tgt := 48) (by decide +kernel) (by decide) (fun zc37 => ?_) (fun zc37 => ?_)
        · refine g_blk (pc' := 10) (loc' := [some (vR (2, 0, h)), some (vI t), some (vI ((nI k) + (-1 : Int32)))]) (st' := []) (σ' := σ) fl1_ok [(48, .iinc 2 (-1)), (51, .goto (-41))] (by decide +kernel) rfl rfl ?_
          rw [im1]
          rw [cl, hT3] at zc24
          rw [cl, hT3] at zc37
          rw [dropT, if_neg zc24, if_pos zc37] at hd
          exact ih σ T hH hS (by omega) h6 hd hF
        · refine g_blk (pc' := 45) (loc' := [some (vR (2, 0, h)), some (vI t), some (vI (nI k))]) (st' := [vI (nI k), vR (0, 3, h)]) (σ' := σ) fl1_ok [(40, .aload_n 0), (41, .getfield 26), (44, .iload_n 2)] (by decide +kernel) rfl rfl ?_
          refine g_callV (0, 3, h) [vI (nI k)] [] vl_RX1_164 mi_X3_remove (ct_remove l hH 3 (by decide) (show k < sz (habs σ h) 3 by rw [sz, hT3]; omega)) rfl rfl rfl rfl ⟨Nat.le_of_ble_eq_true rfl, Nat.le_of_ble_eq_true rfl⟩ rfl (Nat.le_of_ble_eq_true rfl) (by decide +kernel) (fun o σ2 hPσ2 => ?_)
          obtain ⟨rfl, hWσ2⟩ := hPσ2
          refine g_blk (pc' := 10) (loc' := [some (vR (2, 0, h)), some (vI t), some (vI ((nI k) + (-1 : Int32)))]) (st' := []) (σ' := σ2) fl1_ok [(48, .iinc 2 (-1)), (51, .goto (-41))] (by decide +kernel) rfl rfl ?_
          rw [im1]
          rw [cl, hT3] at zc24
          rw [cl, hT3] at zc37
          rw [dropT, if_neg zc24, if_neg (not_not_intro zc37)] at hd
          exact ih σ2 (trem T k) hWσ2.2.1 (by rw [hWσ2.1, hT3, hS, setT_tw]) (by show k ≤ T.1 - 1; omega) (by show T.1 - 1 ≤ 6; omega) hd (hF.tr (hWσ2.2.2))
set_option maxHeartbeats 2000000 in
theorem c_X1_dropSwapsWith (l : Launch) {σ : Sg} {h : Nat} (t : Int32) (hH : HOK σ h) : Con l 2 yX1_dropSwapsWith cX1_dropSwapsWith 3 none [vR (2, 0, h), vI t] σ (fun o σ' => o = none ∧ HW h (dropS (habs σ h) t) σ σ') := by
  refine con_of pn_X1_dropSwapsWith (Nat.le_of_ble_eq_true rfl) (fun hPK hok => ?_)
  show G l (Rm 2) RX1 cX1_dropSwapsWith 3 none _ 0 [some (vR (2, 0, h)), some (vI t), none] [] σ
  refine g_blk (pc' := 4) (loc' := [some (vR (2, 0, h)), some (vI t), none]) (st' := [vR (0, 3, h)]) (σ' := σ) fl1_ok [(0, .aload_n 0), (1, .getfield 26)] (by decide +kernel) rfl rfl ?_
  refine g_callVp (0, 3, h) [] [] vl_RX1_66 mi_X3_size (ct_size l hH 3 (by decide)) rfl rfl rfl rfl ⟨Nat.le_of_ble_eq_true rfl, Nat.le_of_ble_eq_true rfl⟩ rfl (Nat.le_of_ble_eq_true rfl) (by decide +kernel) ?_
  refine g_blk (pc' := 10) (loc' := [some (vR (2, 0, h)), some (vI t), some (vI ((nI (sz (habs σ h) 3)) - (1 : Int32)))]) (st' := []) (σ' := σ) fl1_ok [(7, .iconst 1), (8, .isub), (9, .istore_n 2)] (by decide +kernel) rfl rfl ?_
  exact lp_X1_drop l t (sz (habs σ h) 3) σ ((habs σ h).1 3) hH (setT_self (habs σ h) 3).symm (Nat.le_refl _) (ha_N hH 3 (by decide)) rfl FrH.rf
set_option maxHeartbeats 2000000 in
theorem c_X1_finish (l : Launch) {σ : Sg} {h : Nat} (t : Int32) (hH : HOK σ h) : Con l 3 yX1_finish cX1_finish 4 (some .int) [vR (2, 0, h), vI t] σ (fun o σ' => o = some (vI (cl (habs σ h) 2 t 2)) ∧ HW h (finS (habs σ h) t) σ σ') := by
  refine con_of pn_X1_finish (Nat.le_of_ble_eq_true rfl) (fun hPK hok => ?_)
  show G l (Rm 3) RX1 cX1_finish 4 (some .int) _ 0 [some (vR (2, 0, h)), some (vI t), none, none] [] σ
  refine g_blk (pc' := 6) (loc' := [some (vR (2, 0, h)), some (vI t), none, none]) (st' := [vI (2 : Int32), vI t, vR (0, 2, h)]) (σ' := σ) fl1_ok [(0, .aload_n 0), (1, .getfield 23), (4, .iload_n 1), (5, .iconst 2)] (by decide +kernel) rfl rfl ?_
  refine g_callVp (0, 2, h) [vI t, vI (2 : Int32)] [] vl_RX1_58 mi_X3_cell (ct_cell l hH 2 (by decide) t (2 : Int32)) rfl rfl rfl rfl ⟨Nat.le_of_ble_eq_true rfl, Nat.le_of_ble_eq_true rfl⟩ rfl (Nat.le_of_ble_eq_true rfl) (by decide +kernel) ?_
  refine g_blk (pc' := 16) (loc' := [some (vR (2, 0, h)), some (vI t), some (vI (cl (habs σ h) 2 t (2 : Int32))), none]) (st' := [vI (1 : Int32), vI t, vR (0, 2, h)]) (σ' := σ) fl1_ok [(9, .istore_n 2), (10, .aload_n 0), (11, .getfield 23), (14, .iload_n 1), (15, .iconst 1)] (by decide +kernel) rfl rfl ?_
  refine g_callVp (0, 2, h) [vI t, vI (1 : Int32)] [] vl_RX1_58 mi_X3_cell (ct_cell l hH 2 (by decide) t (1 : Int32)) rfl rfl rfl rfl ⟨Nat.le_of_ble_eq_true rfl, Nat.le_of_ble_eq_true rfl⟩ rfl (Nat.le_of_ble_eq_true rfl) (by decide +kernel) ?_
  refine g_blk (pc' := 27) (loc' := [some (vR (2, 0, h)), some (vI t), some (vI (cl (habs σ h) 2 t (2 : Int32))), some (vI (cl (habs σ h) 2 t (1 : Int32)))]) (st' := [vI (1 : Int32), vI (3 : Int32), vI t, vR (0, 2, h)]) (σ' := σ) fl1_ok [(19, .istore_n 3), (20, .aload_n 0), (21, .getfield 23), (24, .iload_n 1), (25, .iconst 3), (26, .iconst 1)] (by decide +kernel) rfl rfl ?_
  refine g_callV (0, 2, h) [vI t, vI (3 : Int32), vI (1 : Int32)] [] vl_RX1_36 mi_X3_write (ct_write l hH 2 (by decide) t (3 : Int32) (1 : Int32)) rfl rfl rfl rfl ⟨Nat.le_of_ble_eq_true rfl, Nat.le_of_ble_eq_true rfl⟩ rfl (Nat.le_of_ble_eq_true rfl) (by decide +kernel) (fun o σ1 hPσ1 => ?_)
  obtain ⟨rfl, hWσ1⟩ := hPσ1
  refine g_blk (pc' := 40) (loc' := [some (vR (2, 0, h)), some (vI t), some (vI (cl (habs σ h) 2 t (2 : Int32))), some (vI (cl (habs σ h) 2 t (1 : Int32)))]) (st' := []) (σ' := (upd2 σ1.1 (2, 0, h) 7 (((habs σ1 h).2 7) + (1 : Int32)), σ1.2)) fl1_ok [(30, .aload_n 0), (31, .dup), (32, .getfield 52), (35, .iconst 1), (36, .iadd), (37, .putfield 52)] (by decide +kernel) rfl rfl ?_
  generalize hσ2 : ((upd2 σ1.1 (2, 0, h) 7 (((habs σ1 h).2 7) + (1 : Int32)), σ1.2) : Sg) = σ2
  have hWσ2 := hw_F hWσ1.2.1 (by decide) hσ2
  refine g_blk (pc' := 49) (loc' := [some (vR (2, 0, h)), some (vI t), some (vI (cl (habs σ h) 2 t (2 : Int32))), some (vI (cl (habs σ h) 2 t (1 : Int32)))]) (st' := [vI (-(cl (habs σ h) 2 t (2 : Int32))), vI (6 : Int32), vI (cl (habs σ h) 2 t (1 : Int32)), vR (0, 0, h)]) (σ' := σ2) fl1_ok [(40, .aload_n 0), (41, .getfield 16), (44, .iload_n 3), (45, .bipush 6), (47, .iload_n 2), (48, .ineg)] (by decide +kernel) rfl rfl ?_
  refine g_callV (0, 0, h) [vI (cl (habs σ h) 2 t (1 : Int32)), vI (6 : Int32), vI (-(cl (habs σ h) 2 t (2 : Int32)))] [] vl_RX1_74 mi_X3_increase (ct_increase l hWσ2.2.1 0 (by decide) (cl (habs σ h) 2 t (1 : Int32)) (6 : Int32) (-(cl (habs σ h) 2 t (2 : Int32)))) rfl rfl rfl rfl ⟨Nat.le_of_ble_eq_true rfl, Nat.le_of_ble_eq_true rfl⟩ rfl (Nat.le_of_ble_eq_true rfl) (by decide +kernel) (fun o σ3 hPσ3 => ?_)
  obtain ⟨rfl, hWσ3⟩ := hPσ3
  refine g_blk (pc' := 59) (loc' := [some (vR (2, 0, h)), some (vI t), some (vI (cl (habs σ h) 2 t (2 : Int32))), some (vI (cl (habs σ h) 2 t (1 : Int32)))]) (st' := [vI (cl (habs σ h) 2 t (2 : Int32)), vI (3 : Int32), vI (cl (habs σ h) 2 t (1 : Int32)), vR (0, 0, h)]) (σ' := σ3) fl1_ok [(52, .aload_n 0), (53, .getfield 16), (56, .iload_n 3), (57, .iconst 3), (58, .iload_n 2)] (by decide +kernel) rfl rfl ?_
  refine g_callV (0, 0, h) [vI (cl (habs σ h) 2 t (1 : Int32)), vI (3 : Int32), vI (cl (habs σ h) 2 t (2 : Int32))] [] vl_RX1_74 mi_X3_increase (ct_increase l hWσ3.2.1 0 (by decide) (cl (habs σ h) 2 t (1 : Int32)) (3 : Int32) (cl (habs σ h) 2 t (2 : Int32))) rfl rfl rfl rfl ⟨Nat.le_of_ble_eq_true rfl, Nat.le_of_ble_eq_true rfl⟩ rfl (Nat.le_of_ble_eq_true rfl) (by decide +kernel) (fun o σ4 hPσ4 => ?_)
  obtain ⟨rfl, hWσ4⟩ := hPσ4
  refine g_blk (pc' := 64) (loc' := [some (vR (2, 0, h)), some (vI t), some (vI (cl (habs σ h) 2 t (2 : Int32))), some (vI (cl (habs σ h) 2 t (1 : Int32)))]) (st' := [vI t, vR (2, 0, h)]) (σ' := σ4) fl1_ok [(62, .aload_n 0), (63, .iload_n 1)] (by decide +kernel) rfl rfl ?_
  refine g_callVp (2, 0, h) [vI t] [] vl_RX1_130 mi_X1_isTwinOpen (c_X1_isTwinOpen l hWσ4.2.1 t) rfl rfl rfl rfl ⟨Nat.le_of_ble_eq_true rfl, Nat.le_of_ble_eq_true rfl⟩ rfl (Nat.le_of_ble_eq_true rfl) (by decide +kernel) ?_
  refine g_if_ne (off := 16) (tgt := 83) (by decide +kernel) (by decide) (fun zc67 => ?_) (fun zc67 => ?_)
  · refine g_blk (pc' := 85) (loc' := [some (vR (2, 0, h)), some (vI t), some (vI (cl (habs σ h) 2 t (2 : Int32))), some (vI (cl (habs σ h) 2 t (1 : Int32)))]) (st' := [vI t, vR (2, 0, h)]) (σ' := σ4) fl1_ok [(83, .aload_n 0), (84, .iload_n 1)] (by decide +kernel) rfl rfl ?_
    refine g_callV (2, 0, h) [vI t] [] vl_RX1_137 mi_X1_dropSwapsWith (c_X1_dropSwapsWith l t hWσ4.2.1) rfl rfl rfl rfl ⟨Nat.le_of_ble_eq_true rfl, Nat.le_of_ble_eq_true rfl⟩ rfl (Nat.le_of_ble_eq_true rfl) (by decide +kernel) (fun o σ5 hPσ5 => ?_)
    obtain ⟨rfl, hWσ5⟩ := hPσ5
    refine g_blk (pc' := 89) (loc' := [some (vR (2, 0, h)), some (vI t), some (vI (cl (habs σ h) 2 t (2 : Int32))), some (vI (cl (habs σ h) 2 t (1 : Int32)))]) (st' := [vI (cl (habs σ h) 2 t (2 : Int32))]) (σ' := σ5) fl1_ok [(88, .iload_n 2)] (by decide +kernel) rfl rfl ?_
    rw [hWσ4.1, hWσ3.1, hWσ2.1, hWσ1.1] at zc67
    refine g_iret (by decide +kernel) ⟨rfl, ⟨?_, hWσ5.2.1, ((((hWσ1.2.2).tr hWσ2.2.2).tr hWσ3.2.2).tr hWσ4.2.2).tr hWσ5.2.2⟩⟩
    rw [hWσ5.1, hWσ4.1, hWσ3.1, hWσ2.1, hWσ1.1]
    unfold finS
    simp only
    rw [if_pos zc67]
  · refine g_blk (pc' := 77) (loc' := [some (vR (2, 0, h)), some (vI t), some (vI (cl (habs σ h) 2 t (2 : Int32))), some (vI (cl (habs σ h) 2 t (1 : Int32)))]) (st' := [vI (0 : Int32), vI t, vR (0, 2, h), vR (2, 0, h)]) (σ' := σ4) fl1_ok [(70, .aload_n 0), (71, .aload_n 0), (72, .getfield 23), (75, .iload_n 1), (76, .iconst 0)] (by decide +kernel) rfl rfl ?_
    refine g_callVp (0, 2, h) [vI t, vI (0 : Int32)] [vR (2, 0, h)] vl_RX1_58 mi_X3_cell (ct_cell l hWσ4.2.1 2 (by decide) t (0 : Int32)) rfl rfl rfl rfl ⟨Nat.le_of_ble_eq_true rfl, Nat.le_of_ble_eq_true rfl⟩ rfl (Nat.le_of_ble_eq_true rfl) (by decide +kernel) ?_
    refine g_callV (2, 0, h) [vI (cl (habs σ4 h) 2 t (0 : Int32))] [] vl_RX1_133 mi_X1_clean (c_X1_clean l (cl (habs σ4 h) 2 t (0 : Int32)) hWσ4.2.1) rfl rfl rfl rfl ⟨Nat.le_of_ble_eq_true rfl, Nat.le_of_ble_eq_true rfl⟩ rfl (Nat.le_of_ble_eq_true rfl) (by decide +kernel) (fun o σ6 hPσ6 => ?_)
    obtain ⟨rfl, hWσ6⟩ := hPσ6
    refine g_blk (pc' := 85) (loc' := [some (vR (2, 0, h)), some (vI t), some (vI (cl (habs σ h) 2 t (2 : Int32))), some (vI (cl (habs σ h) 2 t (1 : Int32)))]) (st' := [vI t, vR (2, 0, h)]) (σ' := σ6) fl1_ok [(83, .aload_n 0), (84, .iload_n 1)] (by decide +kernel) rfl rfl ?_
    refine g_callV (2, 0, h) [vI t] [] vl_RX1_137 mi_X1_dropSwapsWith (c_X1_dropSwapsWith l t hWσ6.2.1) rfl rfl rfl rfl ⟨Nat.le_of_ble_eq_true rfl, Nat.le_of_ble_eq_true rfl⟩ rfl (Nat.le_of_ble_eq_true rfl) (by decide +kernel) (fun o σ7 hPσ7 => ?_)
    obtain ⟨rfl, hWσ7⟩ := hPσ7
    refine g_blk (pc' := 89) (loc' := [some (vR (2, 0, h)), some (vI t), some (vI (cl (habs σ h) 2 t (2 : Int32))), some (vI (cl (habs σ h) 2 t (1 : Int32)))]) (st' := [vI (cl (habs σ h) 2 t (2 : Int32))]) (σ' := σ7) fl1_ok [(88, .iload_n 2)] (by decide +kernel) rfl rfl ?_
    rw [hWσ4.1, hWσ3.1, hWσ2.1, hWσ1.1] at zc67
    refine g_iret (by decide +kernel) ⟨rfl, ⟨?_, hWσ7.2.1, (((((hWσ1.2.2).tr hWσ2.2.2).tr hWσ3.2.2).tr hWσ4.2.2).tr hWσ6.2.2).tr hWσ7.2.2⟩⟩
    rw [hWσ7.1, hWσ6.1, hWσ4.1, hWσ3.1, hWσ2.1, hWσ1.1]
    unfold finS
    simp only
    rw [if_neg (not_not_intro zc67)]
set_option maxHeartbeats 2000000 in
theorem lp_X1_finG (l : Launch) {σ0 : Sg} {h : Nat} {Sf : HA} (last : Int32) : ∀ (k t : Nat) (σ : Sg), HOK σ h → t < 2 ^ 30 → sz (habs σ h) 2 ≤ t + k → finG last k t (habs σ h) = Sf → FrH h σ0 σ → G l (Rm 4) RX1 cX1_finishFromTo 4 none (fun o σ' => o = none ∧ HW h Sf σ0 σ') 2 [some (vR (2, 0, h)), none, some (vI last), some (vI (nI t))] [] σ := by
  intro k
  induction k with
  | zero =>
    intro t σ hH ht hk hd hF
    refine g_blk (pc' := 4) (loc' := [some (vR (2, 0, h)), none, some (vI last), some (vI (nI t))]) (st' := [vI last, vI (nI t)]) (σ' := σ) fl1_ok [(2, .iload_n 3), (3, .iload_n 2)] (by decide +kernel) rfl rfl ?_
    refine g_icmp_gt (off := 34) (tgt := 38) (by decide +kernel) (by decide) (fun zc4 => ?_) (fun zc4 => ?_)
    · exact g_vret (by decide +kernel) ⟨rfl, ⟨hd, hH, hF⟩⟩
    · refine g_blk (pc' := 12) (loc' := [some (vR (2, 0, h)), none, some (vI last), some (vI (nI t))]) (st' := [vR (0, 2, h), vI (nI t)]) (σ' := σ) fl1_ok [(7, .iload_n 3), (8, .aload_n 0), (9, .getfield 23)] (by decide +kernel) rfl rfl ?_
      refine g_callVp (0, 2, h) [] [vI (nI t)] vl_RX1_66 mi_X3_size (ct_size l hH 2 (by decide)) rfl rfl rfl rfl ⟨Nat.le_of_ble_eq_true rfl, Nat.le_of_ble_eq_true rfl⟩ rfl (Nat.le_of_ble_eq_true rfl) (by decide +kernel) ?_
      refine g_icmp_ge (off := 23) (tgt := 38) (by decide +kernel) (by decide) (fun zc15 => ?_) (fun zc15 => ?_)
      · have hm : sz (habs σ h) 2 ≤ 12 := ha_N hH 2 (by decide)
        rw [nI_leI (by omega) (by omega)] at zc15
        exact g_vret (by decide +kernel) ⟨rfl, ⟨hd, hH, hF⟩⟩
      · have hm : sz (habs σ h) 2 ≤ 12 := ha_N hH 2 (by decide)
        rw [nI_leI (by omega) (by omega)] at zc15
        exact absurd (by omega) zc15
  | succ k ih =>
    intro t σ hH ht hk hd hF
    refine g_blk (pc' := 4) (loc' := [some (vR (2, 0, h)), none, some (vI last), some (vI (nI t))]) (st' := [vI last, vI (nI t)]) (σ' := σ) fl1_ok [(2, .iload_n 3), (3, .iload_n 2)] (by decide +kernel) rfl rfl ?_
    refine g_icmp_gt (off := 34) (tgt := 38) (by decide +kernel) (by decide) (fun zc4 => ?_) (fun zc4 => ?_)
    · rw [finG, if_pos zc4] at hd
      exact g_vret (by decide +kernel) ⟨rfl, ⟨hd, hH, hF⟩⟩
    · refine g_blk (pc' := 12) (loc' := [some (vR (2, 0, h)), none, some (vI last), some (vI (nI t))]) (st' := [vR (0, 2, h), vI (nI t)]) (σ' := σ) fl1_ok [(7, .iload_n 3), (8, .aload_n 0), (9, .getfield 23)] (by decide +kernel) rfl rfl ?_
      refine g_callVp (0, 2, h) [] [vI (nI t)] vl_RX1_66 mi_X3_size (ct_size l hH 2 (by decide)) rfl rfl rfl rfl ⟨Nat.le_of_ble_eq_true rfl, Nat.le_of_ble_eq_true rfl⟩ rfl (Nat.le_of_ble_eq_true rfl) (by decide +kernel) ?_
      refine g_icmp_ge (off := 23) (tgt := 38) (by decide +kernel) (by decide) (fun zc15 => ?_) (fun zc15 => ?_)
      · have hm : sz (habs σ h) 2 ≤ 12 := ha_N hH 2 (by decide)
        rw [nI_leI (by omega) (by omega)] at zc15
        rw [finG, if_neg zc4, if_pos zc15] at hd
        exact g_vret (by decide +kernel) ⟨rfl, ⟨hd, hH, hF⟩⟩
      · have hm : sz (habs σ h) 2 ≤ 12 := ha_N hH 2 (by decide)
        rw [nI_leI (by omega) (by omega)] at zc15
        refine g_blk (pc' := 20) (loc' := [some (vR (2, 0, h)), none, some (vI last), some (vI (nI t))]) (st' := [vI (nI t), vR (2, 0, h)]) (σ' := σ) fl1_ok [(18, .aload_n 0), (19, .iload_n 3)] (by decide +kernel) rfl rfl ?_
        refine g_callVp (2, 0, h) [vI (nI t)] [] vl_RX1_124 mi_X1_isOpen (c_X1_isOpen l hH (nI t)) rfl rfl rfl rfl ⟨Nat.le_of_ble_eq_true rfl, Nat.le_of_ble_eq_true rfl⟩ rfl (Nat.le_of_ble_eq_true rfl) (by decide +kernel) ?_
        refine g_if_eq (off := 9) (tgt := 32) (by decide +kernel) (by decide) (fun zc23 => ?_) (fun zc23 => ?_)
        · refine g_blk (pc' := 2) (loc' := [some (vR (2, 0, h)), none, some (vI last), some (vI ((nI t) + (1 : Int32)))]) (st' := []) (σ' := σ) fl1_ok [(32, .iinc 3 1), (35, .goto (-33))] (by decide +kernel) rfl rfl ?_
          rw [finG, if_neg zc4, if_neg zc15, if_pos zc23] at hd
          rw [nI_1]
          exact ih (t + 1) σ hH (by omega) (by omega) hd hF
        · refine g_blk (pc' := 28) (loc' := [some (vR (2, 0, h)), none, some (vI last), some (vI (nI t))]) (st' := [vI (nI t), vR (2, 0, h)]) (σ' := σ) fl1_ok [(26, .aload_n 0), (27, .iload_n 3)] (by decide +kernel) rfl rfl ?_
          refine g_callV (2, 0, h) [vI (nI t)] [] vl_RX1_140 mi_X1_finish (c_X1_finish l (nI t) hH) rfl rfl rfl rfl ⟨Nat.le_of_ble_eq_true rfl, Nat.le_of_ble_eq_true rfl⟩ rfl (Nat.le_of_ble_eq_true rfl) (by decide +kernel) (fun o σ1 hPσ1 => ?_)
          obtain ⟨rfl, hWσ1⟩ := hPσ1
          refine g_blk (pc' := 2) (loc' := [some (vR (2, 0, h)), none, some (vI last), some (vI ((nI t) + (1 : Int32)))]) (st' := []) (σ' := σ1) fl1_ok [(31, .pop), (32, .iinc 3 1), (35, .goto (-33))] (by decide +kernel) rfl rfl ?_
          rw [finG, if_neg zc4, if_neg zc15, if_neg zc23] at hd
          rw [nI_1]
          have hsz : sz (habs σ1 h) 2 = sz (habs σ h) 2 := by rw [hWσ1.1]; exact sz_fin _ _
          exact ih (t + 1) σ1 hWσ1.2.1 (by omega) (by omega) (by rw [hWσ1.1]; exact hd) (hF.tr (hWσ1.2.2))
set_option maxHeartbeats 2000000 in
theorem c_X1_finishFromTo (l : Launch) {σ : Sg} {h t : Nat} (last : Int32) (hH : HOK σ h) (ht : t < 2 ^ 30) : Con l 4 yX1_finishFromTo cX1_finishFromTo 4 none [vR (2, 0, h), vI (nI t), vI last] σ (fun o σ' => o = none ∧ HW h (finFT (habs σ h) t last) σ σ') := by
  refine con_of pn_X1_finishFromTo (Nat.le_of_ble_eq_true rfl) (fun hPK hok => ?_)
  show G l (Rm 4) RX1 cX1_finishFromTo 4 none _ 0 [some (vR (2, 0, h)), some (vI (nI t)), some (vI last), none] [] σ
  refine g_blk (pc' := 2) (loc' := [some (vR (2, 0, h)), some (vI (nI t)), some (vI last), some (vI (nI t))]) (st' := []) (σ' := σ) fl1_ok [(0, .iload_n 1), (1, .istore_n 3)] (by decide +kernel) rfl rfl ?_
  refine g_sub (loc' := [some (vR (2, 0, h)), none, some (vI last), some (vI (nI t))]) ⟨Or.inr rfl, Or.inl rfl, Or.inr rfl, Or.inr rfl, trivial⟩ ?_
  exact lp_X1_finG l last (sz (habs σ h) 2) t σ hH ht (by omega) rfl FrH.rf
set_option maxHeartbeats 2000000 in
theorem c_X1_finishOpenTasks (l : Launch) {σ : Sg} {h : Nat} (hH : HOK σ h) : Con l 5 yX1_finishOpenTasks cX1_finishOpenTasks 1 none [vR (2, 0, h)] σ (fun o σ' => o = none ∧ HW h (finFT (habs σ h) 0 (nI (sz (habs σ h) 2) - 1)) σ σ') := by
  refine con_of pn_X1_finishOpenTasks (Nat.le_of_ble_eq_true rfl) (fun hPK hok => ?_)
  show G l (Rm 5) RX1 cX1_finishOpenTasks 1 none _ 0 [some (vR (2, 0, h))] [] σ
  refine g_blk (pc' := 6) (loc' := [some (vR (2, 0, h))]) (st' := [vR (0, 2, h), vI (0 : Int32), vR (2, 0, h)]) (σ' := σ) fl1_ok [(0, .aload_n 0), (1, .iconst 0), (2, .aload_n 0), (3, .getfield 23)] (by decide +kernel) rfl rfl ?_
  refine g_callVp (0, 2, h) [] [vI (0 : Int32), vR (2, 0, h)] vl_RX1_66 mi_X3_size (ct_size l hH 2 (by decide)) rfl rfl rfl rfl ⟨Nat.le_of_ble_eq_true rfl, Nat.le_of_ble_eq_true rfl⟩ rfl (Nat.le_of_ble_eq_true rfl) (by decide +kernel) ?_
  refine g_blk (pc' := 11) (loc' := [some (vR (2, 0, h))]) (st' := [vI ((nI (sz (habs σ h) 2)) - (1 : Int32)), vI (0 : Int32), vR (2, 0, h)]) (σ' := σ) fl1_ok [(9, .iconst 1), (10, .isub)] (by decide +kernel) rfl rfl ?_
  refine g_callV (2, 0, h) [vI (0 : Int32), vI ((nI (sz (habs σ h) 2)) - (1 : Int32))] [] vl_RX1_143 mi_X1_finishFromTo (c_X1_finishFromTo l (t := 0) ((nI (sz (habs σ h) 2)) - (1 : Int32)) hH (by omega)) rfl rfl rfl rfl ⟨Nat.le_of_ble_eq_true rfl, Nat.le_of_ble_eq_true rfl⟩ rfl (Nat.le_of_ble_eq_true rfl) (by decide +kernel) (fun o σ1 hPσ1 => ?_)
  obtain ⟨rfl, hWσ1⟩ := hPσ1
  exact g_vret (by decide +kernel) ⟨rfl, ⟨by rw [hWσ1.1] <;> rfl, hWσ1.2.1, hWσ1.2.2⟩⟩
set_option maxHeartbeats 2000000 in
theorem lp_X1_giveF (l : Launch) {σ0 : Sg} {h : Nat} {Sf : HA} : ∀ (k t : Nat) (σ : Sg), HOK σ h → t + k = sz (habs σ h) 2 → giveF k t (habs σ h) = Sf → FrH h σ0 σ → G l (Rm 4) RX1 cX1_giveTasks 3 none (fun o σ' => o = none ∧ HW h Sf σ0 σ') 2 [some (vR (2, 0, h)), some (vI (nI t)), none] [] σ := by
  intro k
  induction k with
  | zero =>
    intro t σ hH hk hd hF
    refine g_blk (pc' := 7) (loc' := [some (vR (2, 0, h)), some (vI (nI t)), none]) (st' := [vR (0, 2, h), vI (nI t)]) (σ' := σ) fl1_ok [(2, .iload_n 1), (3, .aload_n 0), (4, .getfield 23)] (by decide +kernel) rfl rfl ?_
    refine g_callVp (0, 2, h) [] [vI (nI t)] vl_RX1_66 mi_X3_size (ct_size l hH 2 (by decide)) rfl rfl rfl rfl ⟨Nat.le_of_ble_eq_true rfl, Nat.le_of_ble_eq_true rfl⟩ rfl (Nat.le_of_ble_eq_true rfl) (by decide +kernel) ?_
    refine g_icmp_ge (off := 67) (tgt := 77) (by decide +kernel) (by decide) (fun zc10 => ?_) (fun zc10 => ?_)
    · have hm : sz (habs σ h) 2 ≤ 12 := ha_N hH 2 (by decide)
      rw [nI_leI (by omega) (by omega)] at zc10
      exact g_vret (by decide +kernel) ⟨rfl, ⟨hd, hH, hF⟩⟩
    · have hm : sz (habs σ h) 2 ≤ 12 := ha_N hH 2 (by decide)
      rw [nI_leI (by omega) (by omega)] at zc10
      exact absurd (by omega) zc10
  | succ k ih =>
    intro t σ hH hk hd hF
    refine g_blk (pc' := 7) (loc' := [some (vR (2, 0, h)), some (vI (nI t)), none]) (st' := [vR (0, 2, h), vI (nI t)]) (σ' := σ) fl1_ok [(2, .iload_n 1), (3, .aload_n 0), (4, .getfield 23)] (by decide +kernel) rfl rfl ?_
    refine g_callVp (0, 2, h) [] [vI (nI t)] vl_RX1_66 mi_X3_size (ct_size l hH 2 (by decide)) rfl rfl rfl rfl ⟨Nat.le_of_ble_eq_true rfl, Nat.le_of_ble_eq_true rfl⟩ rfl (Nat.le_of_ble_eq_true rfl) (by decide +kernel) ?_
    refine g_icmp_ge (off := 67) (tgt := 77) (by decide +kernel) (by decide) (fun zc10 => ?_) (fun zc10 => ?_)
    · have hm : sz (habs σ h) 2 ≤ 12 := ha_N hH 2 (by decide)
      rw [nI_leI (by omega) (by omega)] at zc10
      exact absurd zc10 (by omega)
    · have hm : sz (habs σ h) 2 ≤ 12 := ha_N hH 2 (by decide)
      rw [nI_leI (by omega) (by omega)] at zc10
      refine g_blk (pc' := 16) (loc' := [some (vR (2, 0, h)), some (vI (nI t)), none]) (st' := [vI (nI t), vR (2, 0, h), vR (2, 0, h)]) (σ' := σ) fl1_ok [(13, .aload_n 0), (14, .aload_n 0), (15, .iload_n 1)] (by decide +kernel) rfl rfl ?_
      refine g_callVp (2, 0, h) [vI (nI t)] [vR (2, 0, h)] vl_RX1_108 mi_X1_hasTwinAhead (c_X1_hasTwinAhead l hH (nI t)) rfl rfl rfl rfl ⟨Nat.le_of_ble_eq_true rfl, Nat.le_of_ble_eq_true rfl⟩ rfl (Nat.le_of_ble_eq_true rfl) (by decide +kernel) ?_
      refine g_if_eq (off := 17) (tgt := 36) (by decide +kernel) (by decide) (fun zc19 => ?_) (fun zc19 => ?_)
      · refine g_blk (pc' := 38) (loc' := [some (vR (2, 0, h)), some (vI (nI t)), none]) (st' := [vI (-6 : Int32), vR (2, 0, h)]) (σ' := σ) fl1_ok [(36, .bipush (-6))] (by decide +kernel) rfl rfl ?_
        refine g_callVp (2, 0, h) [vI (-6 : Int32)] [] vl_RX1_77 mi_X1_leastLoaded (c_X1_leastLoaded l hH (-6 : Int32)) rfl rfl rfl rfl ⟨Nat.le_of_ble_eq_true rfl, Nat.le_of_ble_eq_true rfl⟩ rfl (Nat.le_of_ble_eq_true rfl) (by decide +kernel) ?_
        refine g_blk (pc' := 49) (loc' := [some (vR (2, 0, h)), some (vI (nI t)), some (vI (leastS (habs σ h) (-6 : Int32)))]) (st' := [vI (leastS (habs σ h) (-6 : Int32)), vI (1 : Int32), vI (nI t), vR (0, 2, h)]) (σ' := σ) fl1_ok [(41, .istore_n 2), (42, .aload_n 0), (43, .getfield 23), (46, .iload_n 1), (47, .iconst 1), (48, .iload_n 2)] (by decide +kernel) rfl rfl ?_
        refine g_callV (0, 2, h) [vI (nI t), vI (1 : Int32), vI (leastS (habs σ h) (-6 : Int32))] [] vl_RX1_36 mi_X3_write (ct_write l hH 2 (by decide) (nI t) (1 : Int32) (leastS (habs σ h) (-6 : Int32))) rfl rfl rfl rfl ⟨Nat.le_of_ble_eq_true rfl, Nat.le_of_ble_eq_true rfl⟩ rfl (Nat.le_of_ble_eq_true rfl) (by decide +kernel) (fun o σ1 hPσ1 => ?_)
        obtain ⟨rfl, hWσ1⟩ := hPσ1
        refine g_blk (pc' := 65) (loc' := [some (vR (2, 0, h)), some (vI (nI t)), some (vI (leastS (habs σ h) (-6 : Int32)))]) (st' := [vI (2 : Int32), vI (nI t), vR (0, 2, h), vI (6 : Int32), vI (leastS (habs σ h) (-6 : Int32)), vR (0, 0, h)]) (σ' := σ1) fl1_ok [(52, .aload_n 0), (53, .getfield 16), (56, .iload_n 2), (57, .bipush 6), (59, .aload_n 0), (60, .getfield 23), (63, .iload_n 1), (64, .iconst 2)] (by decide +kernel) rfl rfl ?_
        refine g_callVp (0, 2, h) [vI (nI t), vI (2 : Int32)] [vI (6 : Int32), vI (leastS (habs σ h) (-6 : Int32)), vR (0, 0, h)] vl_RX1_58 mi_X3_cell (ct_cell l hWσ1.2.1 2 (by decide) (nI t) (2 : Int32)) rfl rfl rfl rfl ⟨Nat.le_of_ble_eq_true rfl, Nat.le_of_ble_eq_true rfl⟩ rfl (Nat.le_of_ble_eq_true rfl) (by decide +kernel) ?_
        refine g_callV (0, 0, h) [vI (leastS (habs σ h) (-6 : Int32)), vI (6 : Int32), vI (cl (habs σ1 h) 2 (nI t) (2 : Int32))] [] vl_RX1_74 mi_X3_increase (ct_increase l hWσ1.2.1 0 (by decide) (leastS (habs σ h) (-6 : Int32)) (6 : Int32) (cl (habs σ1 h) 2 (nI t) (2 : Int32))) rfl rfl rfl rfl ⟨Nat.le_of_ble_eq_true rfl, Nat.le_of_ble_eq_true rfl⟩ rfl (Nat.le_of_ble_eq_true rfl) (by decide +kernel) (fun o σ2 hPσ2 => ?_)
        obtain ⟨rfl, hWσ2⟩ := hPσ2
        refine g_blk (pc' := 2) (loc' := [some (vR (2, 0, h)), some (vI ((nI t) + (1 : Int32))), some (vI (leastS (habs σ h) (-6 : Int32)))]) (st' := []) (σ' := σ2) fl1_ok [(71, .iinc 1 1), (74, .goto (-72))] (by decide +kernel) rfl rfl ?_
        rw [giveF, give1, if_pos zc19] at hd
        rw [nI_1]
        refine g_sub (loc' := [some (vR (2, 0, h)), some (vI (nI (t + 1))), none]) ⟨Or.inr rfl, Or.inr rfl, Or.inl rfl, trivial⟩ ?_
        exact ih (t + 1) σ2 hWσ2.2.1 (by rw [hWσ2.1, hWσ1.1]; show t + 1 + k = sz (habs σ h) 2; omega) (by rw [hWσ2.1, hWσ1.1]; exact hd) (hF.tr ((hWσ1.2.2).tr hWσ2.2.2))
      · refine g_blk (pc' := 30) (loc' := [some (vR (2, 0, h)), some (vI (nI t)), none]) (st' := [vI (1 : Int32), vI ((nI t) - (1 : Int32)), vR (0, 2, h), vR (2, 0, h)]) (σ' := σ) fl1_ok [(22, .aload_n 0), (23, .getfield 23), (26, .iload_n 1), (27, .iconst 1), (28, .isub), (29, .iconst 1)] (by decide +kernel) rfl rfl ?_
        refine g_callVp (0, 2, h) [vI ((nI t) - (1 : Int32)), vI (1 : Int32)] [vR (2, 0, h)] vl_RX1_58 mi_X3_cell (ct_cell l hH 2 (by decide) ((nI t) - (1 : Int32)) (1 : Int32)) rfl rfl rfl rfl ⟨Nat.le_of_ble_eq_true rfl, Nat.le_of_ble_eq_true rfl⟩ rfl (Nat.le_of_ble_eq_true rfl) (by decide +kernel) ?_
        refine g_blk (pc' := 38) (loc' := [some (vR (2, 0, h)), some (vI (nI t)), none]) (st' := [vI (cl (habs σ h) 2 ((nI t) - (1 : Int32)) (1 : Int32)), vR (2, 0, h)]) (σ' := σ) fl1_ok [(33, .goto 5)] (by decide +kernel) rfl rfl ?_
        refine g_callVp (2, 0, h) [vI (cl (habs σ h) 2 ((nI t) - (1 : Int32)) (1 : Int32))] [] vl_RX1_77 mi_X1_leastLoaded (c_X1_leastLoaded l hH (cl (habs σ h) 2 ((nI t) - (1 : Int32)) (1 : Int32))) rfl rfl rfl rfl ⟨Nat.le_of_ble_eq_true rfl, Nat.le_of_ble_eq_true rfl⟩ rfl (Nat.le_of_ble_eq_true rfl) (by decide +kernel) ?_
        refine g_blk (pc' := 49) (loc' := [some (vR (2, 0, h)), some (vI (nI t)), some (vI (leastS (habs σ h) (cl (habs σ h) 2 ((nI t) - (1 : Int32)) (1 : Int32))))]) (st' := [vI (leastS (habs σ h) (cl (habs σ h) 2 ((nI t) - (1 : Int32)) (1 : Int32))), vI (1 : Int32), vI (nI t), vR (0, 2, h)]) (σ' := σ) fl1_ok [(41, .istore_n 2), (42, .aload_n 0), (43, .getfield 23), (46, .iload_n 1), (47, .iconst 1), (48, .iload_n 2)] (by decide +kernel) rfl rfl ?_
        refine g_callV (0, 2, h) [vI (nI t), vI (1 : Int32), vI (leastS (habs σ h) (cl (habs σ h) 2 ((nI t) - (1 : Int32)) (1 : Int32)))] [] vl_RX1_36 mi_X3_write (ct_write l hH 2 (by decide) (nI t) (1 : Int32) (leastS (habs σ h) (cl (habs σ h) 2 ((nI t) - (1 : Int32)) (1 : Int32)))) rfl rfl rfl rfl ⟨Nat.le_of_ble_eq_true rfl, Nat.le_of_ble_eq_true rfl⟩ rfl (Nat.le_of_ble_eq_true rfl) (by decide +kernel) (fun o σ3 hPσ3 => ?_)
        obtain ⟨rfl, hWσ3⟩ := hPσ3
        refine g_blk (pc' := 65) (loc' := [some (vR (2, 0, h)), some (vI (nI t)), some (vI (leastS (habs σ h) (cl (habs σ h) 2 ((nI t) - (1 : Int32)) (1 : Int32))))]) (st' := [vI (2 : Int32), vI (nI t), vR (0, 2, h), vI (6 : Int32), vI (leastS (habs σ h) (cl (habs σ h) 2 ((nI t) - (1 : Int32)) (1 : Int32))), vR (0, 0, h)]) (σ' := σ3) fl1_ok [(52, .aload_n 0), (53, .getfield 16), (56, .iload_n 2), (57, .bipush 6), (59, .aload_n 0), (60, .getfield 23), (63, .iload_n 1), (64, .iconst 2)] (by decide +kernel) rfl rfl ?_
        refine g_callVp (0, 2, h) [vI (nI t), vI (2 : Int32)] [vI (6 : Int32), vI (leastS (habs σ h) (cl (habs σ h) 2 ((nI t) - (1 : Int32)) (1 : Int32))), vR (0, 0, h)] vl_RX1_58 mi_X3_cell (ct_cell l hWσ3.2.1 2 (by decide) (nI t) (2 : Int32)) rfl rfl rfl rfl ⟨Nat.le_of_ble_eq_true rfl, Nat.le_of_ble_eq_true rfl⟩ rfl (Nat.le_of_ble_eq_true rfl) (by decide +kernel) ?_
        refine g_callV (0, 0, h) [vI (leastS (habs σ h) (cl (habs σ h) 2 ((nI t) - (1 : Int32)) (1 : Int32))), vI (6 : Int32), vI (cl (habs σ3 h) 2 (nI t) (2 : Int32))] [] vl_RX1_74 mi_X3_increase (ct_increase l hWσ3.2.1 0 (by decide) (leastS (habs σ h) (cl (habs σ h) 2 ((nI t) - (1 : Int32)) (1 : Int32))) (6 : Int32) (cl (habs σ3 h) 2 (nI t) (2 : Int32))) rfl rfl rfl rfl ⟨Nat.le_of_ble_eq_true rfl, Nat.le_of_ble_eq_true rfl⟩ rfl (Nat.le_of_ble_eq_true rfl) (by decide +kernel) (fun o σ4 hPσ4 => ?_)
        obtain ⟨rfl, hWσ4⟩ := hPσ4
        refine g_blk (pc' := 2) (loc' := [some (vR (2, 0, h)), some (vI ((nI t) + (1 : Int32))), some (vI (leastS (habs σ h) (cl (habs σ h) 2 ((nI t) - (1 : Int32)) (1 : Int32))))]) (st' := []) (σ' := σ4) fl1_ok [(71, .iinc 1 1), (74, .goto (-72))] (by decide +kernel) rfl rfl ?_
        rw [giveF, give1, if_neg zc19] at hd
        rw [nI_1]
        refine g_sub (loc' := [some (vR (2, 0, h)), some (vI (nI (t + 1))), none]) ⟨Or.inr rfl, Or.inr rfl, Or.inl rfl, trivial⟩ ?_
        exact ih (t + 1) σ4 hWσ4.2.1 (by rw [hWσ4.1, hWσ3.1]; show t + 1 + k = sz (habs σ h) 2; omega) (by rw [hWσ4.1, hWσ3.1]; exact hd) (hF.tr ((hWσ3.2.2).tr hWσ4.2.2))
set_option maxHeartbeats 2000000 in
theorem c_X1_giveTasks (l : Launch) {σ : Sg} {h : Nat} (hH : HOK σ h) : Con l 4 yX1_giveTasks cX1_giveTasks 3 none [vR (2, 0, h)] σ (fun o σ' => o = none ∧ HW h (giveF (sz (habs σ h) 2) 0 (habs σ h)) σ σ') := by
  refine con_of pn_X1_giveTasks (Nat.le_of_ble_eq_true rfl) (fun hPK hok => ?_)
  show G l (Rm 4) RX1 cX1_giveTasks 3 none _ 0 [some (vR (2, 0, h)), none, none] [] σ
  refine g_blk (pc' := 2) (loc' := [some (vR (2, 0, h)), some (vI (0 : Int32)), none]) (st' := []) (σ' := σ) fl1_ok [(0, .iconst 0), (1, .istore_n 1)] (by decide +kernel) rfl rfl ?_
  exact lp_X1_giveF l (sz (habs σ h) 2) 0 σ hH (by omega) rfl FrH.rf
set_option maxHeartbeats 2000000 in
theorem lp_X1_mkS (l : Launch) {σ0 : Sg} {h : Nat} {Sf : HA} : ∀ (k i : Nat) (f : Int32) (σ : Sg), HOK σ h → i + k = sz (habs σ h) 1 → sz (habs σ h) 2 ≤ 2 * i → mkS k (habs σ h) f = Sf → FrH h σ0 σ → G l (Rm 4) RX1 cX1_makeTasks 6 none (fun o σ' => o = none ∧ HW h Sf σ0 σ') 4 [some (vR (2, 0, h)), some (vI f), some (vI (nI i)), none, none, none] [] σ := by
  intro k
  induction k with
  | zero =>
    intro i f σ hH hk h2 hd hF
    refine g_blk (pc' := 9) (loc' := [some (vR (2, 0, h)), some (vI f), some (vI (nI i)), none, none, none]) (st' := [vR (0, 1, h), vI (nI i)]) (σ' := σ) fl1_ok [(4, .iload_n 2), (5, .aload_n 0), (6, .getfield 20)] (by decide +kernel) rfl rfl ?_
    refine g_callVp (0, 1, h) [] [vI (nI i)] vl_RX1_66 mi_X3_size (ct_size l hH 1 (by decide)) rfl rfl rfl rfl ⟨Nat.le_of_ble_eq_true rfl, Nat.le_of_ble_eq_true rfl⟩ rfl (Nat.le_of_ble_eq_true rfl) (by decide +kernel) ?_
    refine g_icmp_ge (off := 65) (tgt := 77) (by decide +kernel) (by decide) (fun zc12 => ?_) (fun zc12 => ?_)
    · have hm : sz (habs σ h) 1 ≤ 6 := ha_N hH 1 (by decide)
      rw [nI_leI (by omega) (by omega)] at zc12
      exact g_vret (by decide +kernel) ⟨rfl, ⟨hd, hH, hF⟩⟩
    · have hm : sz (habs σ h) 1 ≤ 6 := ha_N hH 1 (by decide)
      rw [nI_leI (by omega) (by omega)] at zc12
      exact absurd (by omega) zc12
  | succ k ih =>
    intro i f σ hH hk h2 hd hF
    refine g_blk (pc' := 9) (loc' := [some (vR (2, 0, h)), some (vI f), some (vI (nI i)), none, none, none]) (st' := [vR (0, 1, h), vI (nI i)]) (σ' := σ) fl1_ok [(4, .iload_n 2), (5, .aload_n 0), (6, .getfield 20)] (by decide +kernel) rfl rfl ?_
    refine g_callVp (0, 1, h) [] [vI (nI i)] vl_RX1_66 mi_X3_size (ct_size l hH 1 (by decide)) rfl rfl rfl rfl ⟨Nat.le_of_ble_eq_true rfl, Nat.le_of_ble_eq_true rfl⟩ rfl (Nat.le_of_ble_eq_true rfl) (by decide +kernel) ?_
    refine g_icmp_ge (off := 65) (tgt := 77) (by decide +kernel) (by decide) (fun zc12 => ?_) (fun zc12 => ?_)
    · have hm : sz (habs σ h) 1 ≤ 6 := ha_N hH 1 (by decide)
      rw [nI_leI (by omega) (by omega)] at zc12
      exact absurd zc12 (by omega)
    · have hm : sz (habs σ h) 1 ≤ 6 := ha_N hH 1 (by decide)
      rw [nI_leI (by omega) (by omega)] at zc12
      refine g_blk (pc' := 17) (loc' := [some (vR (2, 0, h)), some (vI f), some (vI (nI i)), none, none, none]) (st' := [vI f, vR (2, 0, h)]) (σ' := σ) fl1_ok [(15, .aload_n 0), (16, .iload_n 1)] (by decide +kernel) rfl rfl ?_
      refine g_callVp (2, 0, h) [vI f] [] vl_RX1_87 mi_X1_areaOfNextTask (c_X1_areaOfNextTask l hH f) rfl rfl rfl rfl ⟨Nat.le_of_ble_eq_true rfl, Nat.le_of_ble_eq_true rfl⟩ rfl (Nat.le_of_ble_eq_true rfl) (by decide +kernel) ?_
      refine g_blk (pc' := 24) (loc' := [some (vR (2, 0, h)), some (vI f), some (vI (nI i)), some (vI (nextS (habs σ h) f)), none, none]) (st' := [vI (-6 : Int32), vI (nextS (habs σ h) f)]) (σ' := σ) fl1_ok [(20, .istore_n 3), (21, .iload_n 3), (22, .bipush (-6))] (by decide +kernel) rfl rfl ?_
      refine g_icmp_ne (off := 4) (tgt := 28) (by decide +kernel) (by decide) (fun zc24 => ?_) (fun zc24 => ?_)
      · refine g_blk (pc' := 36) (loc' := [some (vR (2, 0, h)), some (vI (f ||| ((1 : Int32) <<< ((nextS (habs σ h) f) &&& 31)))), some (vI (nI i)), some (vI (nextS (habs σ h) f)), none, none]) (st' := [vI (nextS (habs σ h) f), vR (2, 0, h)]) (σ' := σ) fl1_ok [(28, .iload_n 1), (29, .iconst 1), (30, .iload_n 3), (31, .ishl), (32, .ior), (33, .istore_n 1), (34, .aload_n 0), (35, .iload_n 3)] (by decide +kernel) rfl rfl ?_
        refine g_callVp (2, 0, h) [vI (nextS (habs σ h) f)] [] vl_RX1_90 mi_X1_effortOfTask (c_X1_effortOfTask l hH (nextS (habs σ h) f)) rfl rfl rfl rfl ⟨Nat.le_of_ble_eq_true rfl, Nat.le_of_ble_eq_true rfl⟩ rfl (Nat.le_of_ble_eq_true rfl) (by decide +kernel) ?_
        refine g_blk (pc' := 43) (loc' := [some (vR (2, 0, h)), some (vI (f ||| ((1 : Int32) <<< ((nextS (habs σ h) f) &&& 31)))), some (vI (nI i)), some (vI (nextS (habs σ h) f)), some (vI (effS (habs σ h) (nextS (habs σ h) f))), none]) (st' := [vI (nextS (habs σ h) f), vR (2, 0, h)]) (σ' := σ) fl1_ok [(39, .istore 4), (41, .aload_n 0), (42, .iload_n 3)] (by decide +kernel) rfl rfl ?_
        refine g_callVp (2, 0, h) [vI (nextS (habs σ h) f)] [] vl_RX1_93 mi_X1_needsDeepClean (c_X1_needsDeepClean l hH (nextS (habs σ h) f)) rfl rfl rfl rfl ⟨Nat.le_of_ble_eq_true rfl, Nat.le_of_ble_eq_true rfl⟩ rfl (Nat.le_of_ble_eq_true rfl) (by decide +kernel) ?_
        refine g_blk (pc' := 54) (loc' := [some (vR (2, 0, h)), some (vI (f ||| ((1 : Int32) <<< ((nextS (habs σ h) f) &&& 31)))), some (vI (nI i)), some (vI (nextS (habs σ h) f)), some (vI (effS (habs σ h) (nextS (habs σ h) f))), some (vI (deepS (habs σ h) (nextS (habs σ h) f)))]) (st' := [vI (deepS (habs σ h) (nextS (habs σ h) f)), vI (effS (habs σ h) (nextS (habs σ h) f)), vI (nextS (habs σ h) f), vR (2, 0, h)]) (σ' := σ) fl1_ok [(46, .istore 5), (48, .aload_n 0), (49, .iload_n 3), (50, .iload 4), (52, .iload 5)] (by decide +kernel) rfl rfl ?_
        refine g_callV (2, 0, h) [vI (nextS (habs σ h) f), vI (effS (habs σ h) (nextS (habs σ h) f)), vI (deepS (habs σ h) (nextS (habs σ h) f))] [] vl_RX1_97 mi_X1_addTask (c_X1_addTask l (nextS (habs σ h) f) (effS (habs σ h) (nextS (habs σ h) f)) (deepS (habs σ h) (nextS (habs σ h) f)) hH (by show sz (habs σ h) 2 + 0 < 12; omega)) rfl rfl rfl rfl ⟨Nat.le_of_ble_eq_true rfl, Nat.le_of_ble_eq_true rfl⟩ rfl (Nat.le_of_ble_eq_true rfl) (by decide +kernel) (fun o σ1 hPσ1 => ?_)
        obtain ⟨rfl, hWσ1⟩ := hPσ1
        refine g_blk (pc' := 59) (loc' := [some (vR (2, 0, h)), some (vI (f ||| ((1 : Int32) <<< ((nextS (habs σ h) f) &&& 31)))), some (vI (nI i)), some (vI (nextS (habs σ h) f)), some (vI (effS (habs σ h) (nextS (habs σ h) f))), some (vI (deepS (habs σ h) (nextS (habs σ h) f)))]) (st' := [vI (deepS (habs σ h) (nextS (habs σ h) f))]) (σ' := σ1) fl1_ok [(57, .iload 5)] (by decide +kernel) rfl rfl ?_
        refine g_if_eq (off := 12) (tgt := 71) (by decide +kernel) (by decide) (fun zc59 => ?_) (fun zc59 => ?_)
        · refine g_blk (pc' := 4) (loc' := [some (vR (2, 0, h)), some (vI (f ||| ((1 : Int32) <<< ((nextS (habs σ h) f) &&& 31)))), some (vI ((nI i) + (1 : Int32))), some (vI (nextS (habs σ h) f)), some (vI (effS (habs σ h) (nextS (habs σ h) f))), some (vI (deepS (habs σ h) (nextS (habs σ h) f)))]) (st' := []) (σ' := σ1) fl1_ok [(71, .iinc 2 1), (74, .goto (-70))] (by decide +kernel) rfl rfl ?_
          rw [mkS, if_neg zc24] at hd
          simp only at hd
          rw [if_pos zc59] at hd
          rw [nI_1]
          refine g_sub (loc' := [some (vR (2, 0, h)), some (vI (f ||| ((1 : Int32) <<< ((nextS (habs σ h) f) &&& 31)))), some (vI (nI (i + 1))), none, none, none]) ⟨Or.inr rfl, Or.inr rfl, Or.inr rfl, Or.inl rfl, Or.inl rfl, Or.inl rfl, trivial⟩ ?_
          exact ih (i + 1) _ σ1 hWσ1.2.1 (by rw [hWσ1.1]; show i + 1 + k = sz (habs σ h) 1; omega) (by rw [hWσ1.1]; show sz (habs σ h) 2 + 1 ≤ 2 * (i + 1); omega) (by rw [hWσ1.1]; exact hd) (hF.tr (hWσ1.2.2))
        · refine g_blk (pc' := 68) (loc' := [some (vR (2, 0, h)), some (vI (f ||| ((1 : Int32) <<< ((nextS (habs σ h) f) &&& 31)))), some (vI (nI i)), some (vI (nextS (habs σ h) f)), some (vI (effS (habs σ h) (nextS (habs σ h) f))), some (vI (deepS (habs σ h) (nextS (habs σ h) f)))]) (st' := [vI (deepS (habs σ h) (nextS (habs σ h) f)), vI (effS (habs σ h) (nextS (habs σ h) f)), vI (nextS (habs σ h) f), vR (2, 0, h)]) (σ' := σ1) fl1_ok [(62, .aload_n 0), (63, .iload_n 3), (64, .iload 4), (66, .iload 5)] (by decide +kernel) rfl rfl ?_
          refine g_callV (2, 0, h) [vI (nextS (habs σ h) f), vI (effS (habs σ h) (nextS (habs σ h) f)), vI (deepS (habs σ h) (nextS (habs σ h) f))] [] vl_RX1_97 mi_X1_addTask (c_X1_addTask l (nextS (habs σ h) f) (effS (habs σ h) (nextS (habs σ h) f)) (deepS (habs σ h) (nextS (habs σ h) f)) hWσ1.2.1 (by rw [hWσ1.1]; show sz (habs σ h) 2 + 1 < 12; omega)) rfl rfl rfl rfl ⟨Nat.le_of_ble_eq_true rfl, Nat.le_of_ble_eq_true rfl⟩ rfl (Nat.le_of_ble_eq_true rfl) (by decide +kernel) (fun o σ2 hPσ2 => ?_)
          obtain ⟨rfl, hWσ2⟩ := hPσ2
          refine g_blk (pc' := 4) (loc' := [some (vR (2, 0, h)), some (vI (f ||| ((1 : Int32) <<< ((nextS (habs σ h) f) &&& 31)))), some (vI ((nI i) + (1 : Int32))), some (vI (nextS (habs σ h) f)), some (vI (effS (habs σ h) (nextS (habs σ h) f))), some (vI (deepS (habs σ h) (nextS (habs σ h) f)))]) (st' := []) (σ' := σ2) fl1_ok [(71, .iinc 2 1), (74, .goto (-70))] (by decide +kernel) rfl rfl ?_
          rw [mkS, if_neg zc24] at hd
          simp only at hd
          rw [if_neg zc59] at hd
          rw [nI_1]
          refine g_sub (loc' := [some (vR (2, 0, h)), some (vI (f ||| ((1 : Int32) <<< ((nextS (habs σ h) f) &&& 31)))), some (vI (nI (i + 1))), none, none, none]) ⟨Or.inr rfl, Or.inr rfl, Or.inr rfl, Or.inl rfl, Or.inl rfl, Or.inl rfl, trivial⟩ ?_
          exact ih (i + 1) _ σ2 hWσ2.2.1 (by rw [hWσ2.1, hWσ1.1]; show i + 1 + k = sz (habs σ h) 1; omega) (by rw [hWσ2.1, hWσ1.1]; show sz (habs σ h) 2 + 2 ≤ 2 * (i + 1); omega) (by rw [hWσ2.1, hWσ1.1]; exact hd) (hF.tr ((hWσ1.2.2).tr hWσ2.2.2))
      · rw [mkS, if_pos zc24] at hd
        exact g_vret (by decide +kernel) ⟨rfl, ⟨hd, hH, hF⟩⟩
set_option maxHeartbeats 2000000 in
theorem c_X1_makeTasks (l : Launch) {σ : Sg} {h : Nat} (hH : HOK σ h) (h0 : sz (habs σ h) 2 = 0) : Con l 4 yX1_makeTasks cX1_makeTasks 6 none [vR (2, 0, h)] σ (fun o σ' => o = none ∧ HW h (mkS (sz (habs σ h) 1) (habs σ h) 0) σ σ') := by
  refine con_of pn_X1_makeTasks (Nat.le_of_ble_eq_true rfl) (fun hPK hok => ?_)
  show G l (Rm 4) RX1 cX1_makeTasks 6 none _ 0 [some (vR (2, 0, h)), none, none, none, none, none] [] σ
  refine g_blk (pc' := 4) (loc' := [some (vR (2, 0, h)), some (vI (0 : Int32)), some (vI (0 : Int32)), none, none, none]) (st' := []) (σ' := σ) fl1_ok [(0, .iconst 0), (1, .istore_n 1), (2, .iconst 0), (3, .istore_n 2)] (by decide +kernel) rfl rfl ?_
  exact lp_X1_mkS l (sz (habs σ h) 1) 0 0 σ hH (by omega) (by omega) rfl FrH.rf
set_option maxHeartbeats 2000000 in
theorem lp_X1_decayPoints (l : Launch) {σ0 : Sg} {h : Nat} {Sf : HA} (d : Int32) : ∀ (k i : Nat) (σ : Sg), HOK σ h → i + k = sz (habs σ h) 0 → decayF d k i (habs σ h) = Sf → FrH h σ0 σ → G l (Rm 1) RX1 cX1_decayPoints 3 none (fun o σ' => o = none ∧ HW h Sf σ0 σ') 15 [some (vR (2, 0, h)), some (vI d), some (vI (nI i))] [] σ := by
  intro k
  induction k with
  | zero =>
    intro i σ hH hk hd hF
    refine g_blk (pc' := 20) (loc' := [some (vR (2, 0, h)), some (vI d), some (vI (nI i))]) (st' := [vR (0, 0, h), vI (nI i)]) (σ' := σ) fl1_ok [(15, .iload_n 2), (16, .aload_n 0), (17, .getfield 16)] (by decide +kernel) rfl rfl ?_
    refine g_callVp (0, 0, h) [] [vI (nI i)] vl_RX1_66 mi_X3_size (ct_size l hH 0 (by decide)) rfl rfl rfl rfl ⟨Nat.le_of_ble_eq_true rfl, Nat.le_of_ble_eq_true rfl⟩ rfl (Nat.le_of_ble_eq_true rfl) (by decide +kernel) ?_
    refine g_icmp_ge (off := 32) (tgt := 55) (by decide +kernel) (by decide) (fun zc23 => ?_) (fun zc23 => ?_)
    · have hm : sz (habs σ h) 0 ≤ 8 := Nat.le_trans (ha_N hH 0 (by decide)) (by decide : mst 0 ≤ 8)
      rw [nI_leI (by omega) (by omega)] at zc23
      exact g_vret (by decide +kernel) ⟨rfl, ⟨hd, hH, hF⟩⟩
    · have hm : sz (habs σ h) 0 ≤ 8 := Nat.le_trans (ha_N hH 0 (by decide)) (by decide : mst 0 ≤ 8)
      rw [nI_leI (by omega) (by omega)] at zc23
      exact absurd (by omega) zc23
  | succ k ih =>
    intro i σ hH hk hd hF
    refine g_blk (pc' := 20) (loc' := [some (vR (2, 0, h)), some (vI d), some (vI (nI i))]) (st' := [vR (0, 0, h), vI (nI i)]) (σ' := σ) fl1_ok [(15, .iload_n 2), (16, .aload_n 0), (17, .getfield 16)] (by decide +kernel) rfl rfl ?_
    refine g_callVp (0, 0, h) [] [vI (nI i)] vl_RX1_66 mi_X3_size (ct_size l hH 0 (by decide)) rfl rfl rfl rfl ⟨Nat.le_of_ble_eq_true rfl, Nat.le_of_ble_eq_true rfl⟩ rfl (Nat.le_of_ble_eq_true rfl) (by decide +kernel) ?_
    refine g_icmp_ge (off := 32) (tgt := 55) (by decide +kernel) (by decide) (fun zc23 => ?_) (fun zc23 => ?_)
    · have hm : sz (habs σ h) 0 ≤ 8 := Nat.le_trans (ha_N hH 0 (by decide)) (by decide : mst 0 ≤ 8)
      rw [nI_leI (by omega) (by omega)] at zc23
      exact absurd zc23 (by omega)
    · have hm : sz (habs σ h) 0 ≤ 8 := Nat.le_trans (ha_N hH 0 (by decide)) (by decide : mst 0 ≤ 8)
      rw [nI_leI (by omega) (by omega)] at zc23
      refine g_blk (pc' := 38) (loc' := [some (vR (2, 0, h)), some (vI d), some (vI (nI i))]) (st' := [vI (5 : Int32), vI (nI i), vR (0, 0, h), vI (5 : Int32), vI (nI i), vR (0, 0, h)]) (σ' := σ) fl1_ok [(26, .aload_n 0), (27, .getfield 16), (30, .iload_n 2), (31, .iconst 5), (32, .aload_n 0), (33, .getfield 16), (36, .iload_n 2), (37, .iconst 5)] (by decide +kernel) rfl rfl ?_
      refine g_callVp (0, 0, h) [vI (nI i), vI (5 : Int32)] [vI (5 : Int32), vI (nI i), vR (0, 0, h)] vl_RX1_58 mi_X3_cell (ct_cell l hH 0 (by decide) (nI i) (5 : Int32)) rfl rfl rfl rfl ⟨Nat.le_of_ble_eq_true rfl, Nat.le_of_ble_eq_true rfl⟩ rfl (Nat.le_of_ble_eq_true rfl) (by decide +kernel) ?_
      refine g_blk (pc' := 45) (loc' := [some (vR (2, 0, h)), some (vI d), some (vI (nI i))]) (st' := [vI (100 : Int32), vI ((cl (habs σ h) 0 (nI i) (5 : Int32)) * d), vI (5 : Int32), vI (nI i), vR (0, 0, h)]) (σ' := σ) fl1_ok [(41, .iload_n 1), (42, .imul), (43, .bipush 100)] (by decide +kernel) rfl rfl ?_
      refine g_idiv (hy := by decide) (hd := by decide +kernel) (k := ?_)
      refine g_callV (0, 0, h) [vI (nI i), vI (5 : Int32), vI (((cl (habs σ h) 0 (nI i) (5 : Int32)) * d) / (100 : Int32))] [] vl_RX1_36 mi_X3_write (ct_write l hH 0 (by decide) (nI i) (5 : Int32) (((cl (habs σ h) 0 (nI i) (5 : Int32)) * d) / (100 : Int32))) rfl rfl rfl rfl ⟨Nat.le_of_ble_eq_true rfl, Nat.le_of_ble_eq_true rfl⟩ rfl (Nat.le_of_ble_eq_true rfl) (by decide +kernel) (fun o σ1 hPσ1 => ?_)
      obtain ⟨rfl, hWσ1⟩ := hPσ1
      refine g_blk (pc' := 15) (loc' := [some (vR (2, 0, h)), some (vI d), some (vI ((nI i) + (1 : Int32)))]) (st' := []) (σ' := σ1) fl1_ok [(49, .iinc 2 1), (52, .goto (-37))] (by decide +kernel) rfl rfl ?_
      rw [nI_1]
      refine g_sub (loc' := [some (vR (2, 0, h)), some (vI d), some (vI (nI (i + 1)))]) ⟨Or.inr rfl, ⟨Or.inr rfl, ⟨Or.inr rfl, trivial⟩⟩⟩ ?_
      exact ih (i + 1) σ1 hWσ1.2.1 (by rw [hWσ1.1]; show i + 1 + k = sz (habs σ h) 0; omega) (by rw [hWσ1.1]; exact hd) (hF.tr (hWσ1.2.2))
set_option maxHeartbeats 2000000 in
theorem c_X1_decayPoints (l : Launch) {σ : Sg} {h : Nat} (hH : HOK σ h) : Con l 1 yX1_decayPoints cX1_decayPoints 3 none [vR (2, 0, h)] σ (fun o σ' => o = none ∧ HW h (decayF (100 - cl (habs σ h) 4 0 1) (sz (habs σ h) 0) 0 (habs σ h)) σ σ') := by
  refine con_of pn_X1_decayPoints (Nat.le_of_ble_eq_true rfl) (fun hPK hok => ?_)
  show G l (Rm 1) RX1 cX1_decayPoints 3 none _ 0 [some (vR (2, 0, h)), none, none] [] σ
  refine g_blk (pc' := 8) (loc' := [some (vR (2, 0, h)), none, none]) (st' := [vI (1 : Int32), vI (0 : Int32), vR (0, 4, h), vI (100 : Int32)]) (σ' := σ) fl1_ok [(0, .bipush 100), (2, .aload_n 0), (3, .getfield 29), (6, .iconst 0), (7, .iconst 1)] (by decide +kernel) rfl rfl ?_
  refine g_callVp (0, 4, h) [vI (0 : Int32), vI (1 : Int32)] [vI (100 : Int32)] vl_RX1_58 mi_X3_cell (ct_cell l hH 4 (by decide) (0 : Int32) (1 : Int32)) rfl rfl rfl rfl ⟨Nat.le_of_ble_eq_true rfl, Nat.le_of_ble_eq_true rfl⟩ rfl (Nat.le_of_ble_eq_true rfl) (by decide +kernel) ?_
  refine g_blk (pc' := 15) (loc' := [some (vR (2, 0, h)), some (vI ((100 : Int32) - (cl (habs σ h) 4 (0 : Int32) (1 : Int32)))), some (vI (0 : Int32))]) (st' := []) (σ' := σ) fl1_ok [(11, .isub), (12, .istore_n 1), (13, .iconst 0), (14, .istore_n 2)] (by decide +kernel) rfl rfl ?_
  exact lp_X1_decayPoints l (100 - cl (habs σ h) 4 0 1) (sz (habs σ h) 0) 0 σ hH (by omega) rfl FrH.rf
set_option maxHeartbeats 2000000 in
theorem lp_X1_growDirt (l : Launch) {σ0 : Sg} {h : Nat} {Sf : HA} : ∀ (k i : Nat) (σ : Sg), HOK σ h → i + k = sz (habs σ h) 1 → growF k i (habs σ h) = Sf → FrH h σ0 σ → G l (Rm 1) RX1 cX1_growDirt 3 none (fun o σ' => o = none ∧ HW h Sf σ0 σ') 2 [some (vR (2, 0, h)), some (vI (nI i)), none] [] σ := by
  intro k
  induction k with
  | zero =>
    intro i σ hH hk hd hF
    refine g_blk (pc' := 7) (loc' := [some (vR (2, 0, h)), some (vI (nI i)), none]) (st' := [vR (0, 1, h), vI (nI i)]) (σ' := σ) fl1_ok [(2, .iload_n 1), (3, .aload_n 0), (4, .getfield 20)] (by decide +kernel) rfl rfl ?_
    refine g_callVp (0, 1, h) [] [vI (nI i)] vl_RX1_66 mi_X3_size (ct_size l hH 1 (by decide)) rfl rfl rfl rfl ⟨Nat.le_of_ble_eq_true rfl, Nat.le_of_ble_eq_true rfl⟩ rfl (Nat.le_of_ble_eq_true rfl) (by decide +kernel) ?_
    refine g_icmp_ge (off := 45) (tgt := 55) (by decide +kernel) (by decide) (fun zc10 => ?_) (fun zc10 => ?_)
    · have hm : sz (habs σ h) 1 ≤ 8 := Nat.le_trans (ha_N hH 1 (by decide)) (by decide : mst 1 ≤ 8)
      rw [nI_leI (by omega) (by omega)] at zc10
      exact g_vret (by decide +kernel) ⟨rfl, ⟨hd, hH, hF⟩⟩
    · have hm : sz (habs σ h) 1 ≤ 8 := Nat.le_trans (ha_N hH 1 (by decide)) (by decide : mst 1 ≤ 8)
      rw [nI_leI (by omega) (by omega)] at zc10
      exact absurd (by omega) zc10
  | succ k ih =>
    intro i σ hH hk hd hF
    refine g_blk (pc' := 7) (loc' := [some (vR (2, 0, h)), some (vI (nI i)), none]) (st' := [vR (0, 1, h), vI (nI i)]) (σ' := σ) fl1_ok [(2, .iload_n 1), (3, .aload_n 0), (4, .getfield 20)] (by decide +kernel) rfl rfl ?_
    refine g_callVp (0, 1, h) [] [vI (nI i)] vl_RX1_66 mi_X3_size (ct_size l hH 1 (by decide)) rfl rfl rfl rfl ⟨Nat.le_of_ble_eq_true rfl, Nat.le_of_ble_eq_true rfl⟩ rfl (Nat.le_of_ble_eq_true rfl) (by decide +kernel) ?_
    refine g_icmp_ge (off := 45) (tgt := 55) (by decide +kernel) (by decide) (fun zc10 => ?_) (fun zc10 => ?_)
    · have hm : sz (habs σ h) 1 ≤ 8 := Nat.le_trans (ha_N hH 1 (by decide)) (by decide : mst 1 ≤ 8)
      rw [nI_leI (by omega) (by omega)] at zc10
      exact absurd zc10 (by omega)
    · have hm : sz (habs σ h) 1 ≤ 8 := Nat.le_trans (ha_N hH 1 (by decide)) (by decide : mst 1 ≤ 8)
      rw [nI_leI (by omega) (by omega)] at zc10
      refine g_blk (pc' := 19) (loc' := [some (vR (2, 0, h)), some (vI (nI i)), none]) (st' := [vI (3 : Int32), vI (nI i), vR (0, 1, h)]) (σ' := σ) fl1_ok [(13, .aload_n 0), (14, .getfield 20), (17, .iload_n 1), (18, .iconst 3)] (by decide +kernel) rfl rfl ?_
      refine g_callVp (0, 1, h) [vI (nI i), vI (3 : Int32)] [] vl_RX1_58 mi_X3_cell (ct_cell l hH 1 (by decide) (nI i) (3 : Int32)) rfl rfl rfl rfl ⟨Nat.le_of_ble_eq_true rfl, Nat.le_of_ble_eq_true rfl⟩ rfl (Nat.le_of_ble_eq_true rfl) (by decide +kernel) ?_
      refine g_blk (pc' := 28) (loc' := [some (vR (2, 0, h)), some (vI (nI i)), none]) (st' := [vI (2 : Int32), vI (nI i), vR (0, 1, h), vI (cl (habs σ h) 1 (nI i) (3 : Int32))]) (σ' := σ) fl1_ok [(22, .aload_n 0), (23, .getfield 20), (26, .iload_n 1), (27, .iconst 2)] (by decide +kernel) rfl rfl ?_
      refine g_callVp (0, 1, h) [vI (nI i), vI (2 : Int32)] [vI (cl (habs σ h) 1 (nI i) (3 : Int32))] vl_RX1_58 mi_X3_cell (ct_cell l hH 1 (by decide) (nI i) (2 : Int32)) rfl rfl rfl rfl ⟨Nat.le_of_ble_eq_true rfl, Nat.le_of_ble_eq_true rfl⟩ rfl (Nat.le_of_ble_eq_true rfl) (by decide +kernel) ?_
      refine g_blk (pc' := 43) (loc' := [some (vR (2, 0, h)), some (vI (nI i)), some (vI ((cl (habs σ h) 1 (nI i) (3 : Int32)) + (cl (habs σ h) 1 (nI i) (2 : Int32))))]) (st' := [vI ((cl (habs σ h) 1 (nI i) (3 : Int32)) + (cl (habs σ h) 1 (nI i) (2 : Int32))), vI (1000 : Int32), vI (3 : Int32), vI (nI i), vR (0, 1, h)]) (σ' := σ) fl1_ok [(31, .iadd), (32, .istore_n 2), (33, .aload_n 0), (34, .getfield 20), (37, .iload_n 1), (38, .iconst 3), (39, .sipush 1000), (42, .iload_n 2)] (by decide +kernel) rfl rfl ?_
      refine g_min jl_RX1_146 ⟨Nat.le_of_ble_eq_true rfl, Nat.le_of_ble_eq_true rfl⟩ (by decide +kernel) ?_
      refine g_callV (0, 1, h) [vI (nI i), vI (3 : Int32), vI (if ((cl (habs σ h) 1 (nI i) (3 : Int32)) + (cl (habs σ h) 1 (nI i) (2 : Int32))) < (1000 : Int32) then ((cl (habs σ h) 1 (nI i) (3 : Int32)) + (cl (habs σ h) 1 (nI i) (2 : Int32))) else (1000 : Int32))] [] vl_RX1_36 mi_X3_write (ct_write l hH 1 (by decide) (nI i) (3 : Int32) (if ((cl (habs σ h) 1 (nI i) (3 : Int32)) + (cl (habs σ h) 1 (nI i) (2 : Int32))) < (1000 : Int32) then ((cl (habs σ h) 1 (nI i) (3 : Int32)) + (cl (habs σ h) 1 (nI i) (2 : Int32))) else (1000 : Int32))) rfl rfl rfl rfl ⟨Nat.le_of_ble_eq_true rfl, Nat.le_of_ble_eq_true rfl⟩ rfl (Nat.le_of_ble_eq_true rfl) (by decide +kernel) (fun o σ1 hPσ1 => ?_)
      obtain ⟨rfl, hWσ1⟩ := hPσ1
      refine g_blk (pc' := 2) (loc' := [some (vR (2, 0, h)), some (vI ((nI i) + (1 : Int32))), some (vI ((cl (habs σ h) 1 (nI i) (3 : Int32)) + (cl (habs σ h) 1 (nI i) (2 : Int32))))]) (st' := []) (σ' := σ1) fl1_ok [(49, .iinc 1 1), (52, .goto (-50))] (by decide +kernel) rfl rfl ?_
      rw [nI_1]
      refine g_sub (loc' := [some (vR (2, 0, h)), some (vI (nI (i + 1))), none]) ⟨Or.inr rfl, ⟨Or.inr rfl, ⟨Or.inl rfl, trivial⟩⟩⟩ ?_
      exact ih (i + 1) σ1 hWσ1.2.1 (by rw [hWσ1.1]; show i + 1 + k = sz (habs σ h) 1; omega) (by rw [hWσ1.1]; exact hd) (hF.tr (hWσ1.2.2))
set_option maxHeartbeats 2000000 in
theorem c_X1_growDirt (l : Launch) {σ : Sg} {h : Nat} (hH : HOK σ h) : Con l 1 yX1_growDirt cX1_growDirt 3 none [vR (2, 0, h)] σ (fun o σ' => o = none ∧ HW h (growF (sz (habs σ h) 1) 0 (habs σ h)) σ σ') := by
  refine con_of pn_X1_growDirt (Nat.le_of_ble_eq_true rfl) (fun hPK hok => ?_)
  show G l (Rm 1) RX1 cX1_growDirt 3 none _ 0 [some (vR (2, 0, h)), none, none] [] σ
  refine g_blk (pc' := 2) (loc' := [some (vR (2, 0, h)), some (vI (0 : Int32)), none]) (st' := []) (σ' := σ) fl1_ok [(0, .iconst 0), (1, .istore_n 1)] (by decide +kernel) rfl rfl ?_
  exact lp_X1_growDirt l (sz (habs σ h) 1) 0 σ hH (by omega) rfl FrH.rf
set_option maxHeartbeats 2000000 in
theorem c_X1_planWeek (l : Launch) {σ : Sg} {h : Nat} (hH : HOK σ h) (h0 : sz (habs σ h) 2 = 0) : Con l 5 yX1_planWeek cX1_planWeek 2 (some .int) [vR (2, 0, h)] σ (fun o σ' => o = some (vI (nI (sz (planS (habs σ h)) 2))) ∧ HW h (planS (habs σ h)) σ σ') := by
  refine con_of pn_X1_planWeek (Nat.le_of_ble_eq_true rfl) (fun hPK hok => ?_)
  show G l (Rm 5) RX1 cX1_planWeek 2 (some .int) _ 0 [some (vR (2, 0, h)), none] [] σ
  refine g_blk (pc' := 5) (loc' := [some (vR (2, 0, h)), none]) (st' := []) (σ' := (upd2 σ.1 (2, 0, h) 6 (1 : Int32), σ.2)) fl1_ok [(0, .aload_n 0), (1, .iconst 1), (2, .putfield 48)] (by decide +kernel) rfl rfl ?_
  generalize hσ1 : ((upd2 σ.1 (2, 0, h) 6 (1 : Int32), σ.2) : Sg) = σ1
  have hWσ1 := hw_F hH (by decide) hσ1
  refine g_blk (pc' := 8) (loc' := [some (vR (2, 0, h)), none]) (st' := [vI (-6 : Int32), vR (2, 0, h)]) (σ' := σ1) fl1_ok [(5, .aload_n 0), (6, .bipush (-6))] (by decide +kernel) rfl rfl ?_
  refine g_callVp (2, 0, h) [vI (-6 : Int32)] [] vl_RX1_77 mi_X1_leastLoaded (c_X1_leastLoaded l hWσ1.2.1 (-6 : Int32)) rfl rfl rfl rfl ⟨Nat.le_of_ble_eq_true rfl, Nat.le_of_ble_eq_true rfl⟩ rfl (Nat.le_of_ble_eq_true rfl) (by decide +kernel) ?_
  refine g_blk (pc' := 13) (loc' := [some (vR (2, 0, h)), none]) (st' := [vI (-6 : Int32), vI (leastS (habs σ1 h) (-6 : Int32))]) (σ' := σ1) fl1_ok [(11, .bipush (-6))] (by decide +kernel) rfl rfl ?_
  refine g_icmp_eq (off := 7) (tgt := 20) (by decide +kernel) (by decide) (fun zc13 => ?_) (fun zc13 => ?_)
  · refine g_blk (pc' := 23) (loc' := [some (vR (2, 0, h)), some (vI (0 : Int32))]) (st' := [vI (0 : Int32)]) (σ' := σ1) fl1_ok [(20, .iconst 0), (21, .istore_n 1), (22, .iload_n 1)] (by decide +kernel) rfl rfl ?_
    refine g_if_eq (off := 11) (tgt := 34) (by decide +kernel) (by decide) (fun zc23 => ?_) (fun zc23 => ?_)
    · refine g_blk (pc' := 38) (loc' := [some (vR (2, 0, h)), some (vI (0 : Int32))]) (st' := [vR (0, 2, h)]) (σ' := σ1) fl1_ok [(34, .aload_n 0), (35, .getfield 23)] (by decide +kernel) rfl rfl ?_
      refine g_callVp (0, 2, h) [] [] vl_RX1_66 mi_X3_size (ct_size l hWσ1.2.1 2 (by decide)) rfl rfl rfl rfl ⟨Nat.le_of_ble_eq_true rfl, Nat.le_of_ble_eq_true rfl⟩ rfl (Nat.le_of_ble_eq_true rfl) (by decide +kernel) ?_
      rw [hWσ1.1] at zc13
      refine g_iret (by decide +kernel) ⟨?_, ⟨?_, hWσ1.2.1, hWσ1.2.2⟩⟩
      · rw [hWσ1.1]
        unfold planS
        simp only
        rw [if_pos zc13]
      · rw [hWσ1.1]
        unfold planS
        simp only
        rw [if_pos zc13]
    · exact absurd zc23 (by decide)
  · refine g_blk (pc' := 23) (loc' := [some (vR (2, 0, h)), some (vI (1 : Int32))]) (st' := [vI (1 : Int32)]) (σ' := σ1) fl1_ok [(16, .iconst 1), (17, .goto 4), (21, .istore_n 1), (22, .iload_n 1)] (by decide +kernel) rfl rfl ?_
    refine g_if_eq (off := 11) (tgt := 34) (by decide +kernel) (by decide) (fun zc23 => ?_) (fun zc23 => ?_)
    · exact absurd zc23 (by decide)
    · refine g_blk (pc' := 27) (loc' := [some (vR (2, 0, h)), some (vI (1 : Int32))]) (st' := [vR (2, 0, h)]) (σ' := σ1) fl1_ok [(26, .aload_n 0)] (by decide +kernel) rfl rfl ?_
      refine g_callV (2, 0, h) [] [] vl_RX1_81 mi_X1_makeTasks (c_X1_makeTasks l hWσ1.2.1 (by rw [hWσ1.1]; exact h0)) rfl rfl rfl rfl ⟨Nat.le_of_ble_eq_true rfl, Nat.le_of_ble_eq_true rfl⟩ rfl (Nat.le_of_ble_eq_true rfl) (by decide +kernel) (fun o σ2 hPσ2 => ?_)
      obtain ⟨rfl, hWσ2⟩ := hPσ2
      refine g_blk (pc' := 31) (loc' := [some (vR (2, 0, h)), some (vI (1 : Int32))]) (st' := [vR (2, 0, h)]) (σ' := σ2) fl1_ok [(30, .aload_n 0)] (by decide +kernel) rfl rfl ?_
      refine g_callV (2, 0, h) [] [] vl_RX1_84 mi_X1_giveTasks (c_X1_giveTasks l hWσ2.2.1) rfl rfl rfl rfl ⟨Nat.le_of_ble_eq_true rfl, Nat.le_of_ble_eq_true rfl⟩ rfl (Nat.le_of_ble_eq_true rfl) (by decide +kernel) (fun o σ3 hPσ3 => ?_)
      obtain ⟨rfl, hWσ3⟩ := hPσ3
      refine g_blk (pc' := 38) (loc' := [some (vR (2, 0, h)), some (vI (1 : Int32))]) (st' := [vR (0, 2, h)]) (σ' := σ3) fl1_ok [(34, .aload_n 0), (35, .getfield 23)] (by decide +kernel) rfl rfl ?_
      refine g_callVp (0, 2, h) [] [] vl_RX1_66 mi_X3_size (ct_size l hWσ3.2.1 2 (by decide)) rfl rfl rfl rfl ⟨Nat.le_of_ble_eq_true rfl, Nat.le_of_ble_eq_true rfl⟩ rfl (Nat.le_of_ble_eq_true rfl) (by decide +kernel) ?_
      rw [hWσ1.1] at zc13
      refine g_iret (by decide +kernel) ⟨?_, ⟨?_, hWσ3.2.1, ((hWσ1.2.2).tr hWσ2.2.2).tr hWσ3.2.2⟩⟩
      · rw [hWσ3.1, hWσ2.1, hWσ1.1]
        unfold planS
        simp only
        rw [if_neg zc13]
      · rw [hWσ3.1, hWσ2.1, hWσ1.1]
        unfold planS
        simp only
        rw [if_neg zc13]
set_option maxHeartbeats 2000000 in
theorem lp_X1_endWeek (l : Launch) {σ0 : Sg} {h : Nat} {Sk : HA} (c : Int32) : ∀ (k i : Nat) (σ : Sg), HOK σ h → i + k = sz (habs σ h) 2 → skipF k i (habs σ h) = Sk → FrH h σ0 σ → G l (Rm 3) RX1 cX1_endWeek 3 (some .int) (fun o σ' => o = some (vI c) ∧ HW h (endR Sk) σ0 σ') 7 [some (vR (2, 0, h)), some (vI c), some (vI (nI i))] [] σ := by
  intro k
  induction k with
  | zero =>
    intro i σ hH hk hd hF
    refine g_blk (pc' := 12) (loc' := [some (vR (2, 0, h)), some (vI c), some (vI (nI i))]) (st' := [vR (0, 2, h), vI (nI i)]) (σ' := σ) fl1_ok [(7, .iload_n 2), (8, .aload_n 0), (9, .getfield 23)] (by decide +kernel) rfl rfl ?_
    refine g_callVp (0, 2, h) [] [vI (nI i)] vl_RX1_66 mi_X3_size (ct_size l hH 2 (by decide)) rfl rfl rfl rfl ⟨Nat.le_of_ble_eq_true rfl, Nat.le_of_ble_eq_true rfl⟩ rfl (Nat.le_of_ble_eq_true rfl) (by decide +kernel) ?_
    refine g_icmp_ge (off := 22) (tgt := 37) (by decide +kernel) (by decide) (fun zc15 => ?_) (fun zc15 => ?_)
    · have hm : sz (habs σ h) 2 ≤ 12 := ha_N hH 2 (by decide)
      rw [nI_leI (by omega) (by omega)] at zc15
      refine g_blk (pc' := 41) (loc' := [some (vR (2, 0, h)), some (vI c), some (vI (nI i))]) (st' := [vR (0, 2, h)]) (σ' := σ) fl1_ok [(37, .aload_n 0), (38, .getfield 23)] (by decide +kernel) rfl rfl ?_
      refine g_callV (0, 2, h) [] [] vl_RX1_155 mi_X3_clear (ct_clear l hH 2 (by decide)) rfl rfl rfl rfl ⟨Nat.le_of_ble_eq_true rfl, Nat.le_of_ble_eq_true rfl⟩ rfl (Nat.le_of_ble_eq_true rfl) (by decide +kernel) (fun o σ1 hPσ1 => ?_)
      obtain ⟨rfl, hWσ1⟩ := hPσ1
      refine g_blk (pc' := 48) (loc' := [some (vR (2, 0, h)), some (vI c), some (vI (nI i))]) (st' := [vR (0, 3, h)]) (σ' := σ1) fl1_ok [(44, .aload_n 0), (45, .getfield 26)] (by decide +kernel) rfl rfl ?_
      refine g_callV (0, 3, h) [] [] vl_RX1_155 mi_X3_clear (ct_clear l hWσ1.2.1 3 (by decide)) rfl rfl rfl rfl ⟨Nat.le_of_ble_eq_true rfl, Nat.le_of_ble_eq_true rfl⟩ rfl (Nat.le_of_ble_eq_true rfl) (by decide +kernel) (fun o σ2 hPσ2 => ?_)
      obtain ⟨rfl, hWσ2⟩ := hPσ2
      refine g_blk (pc' := 52) (loc' := [some (vR (2, 0, h)), some (vI c), some (vI (nI i))]) (st' := [vR (2, 0, h)]) (σ' := σ2) fl1_ok [(51, .aload_n 0)] (by decide +kernel) rfl rfl ?_
      refine g_callV (2, 0, h) [] [] vl_RX1_158 mi_X1_decayPoints (c_X1_decayPoints l hWσ2.2.1) rfl rfl rfl rfl ⟨Nat.le_of_ble_eq_true rfl, Nat.le_of_ble_eq_true rfl⟩ rfl (Nat.le_of_ble_eq_true rfl) (by decide +kernel) (fun o σ3 hPσ3 => ?_)
      obtain ⟨rfl, hWσ3⟩ := hPσ3
      refine g_blk (pc' := 56) (loc' := [some (vR (2, 0, h)), some (vI c), some (vI (nI i))]) (st' := [vR (2, 0, h)]) (σ' := σ3) fl1_ok [(55, .aload_n 0)] (by decide +kernel) rfl rfl ?_
      refine g_callV (2, 0, h) [] [] vl_RX1_161 mi_X1_growDirt (c_X1_growDirt l hWσ3.2.1) rfl rfl rfl rfl ⟨Nat.le_of_ble_eq_true rfl, Nat.le_of_ble_eq_true rfl⟩ rfl (Nat.le_of_ble_eq_true rfl) (by decide +kernel) (fun o σ4 hPσ4 => ?_)
      obtain ⟨rfl, hWσ4⟩ := hPσ4
      refine g_blk (pc' := 69) (loc' := [some (vR (2, 0, h)), some (vI c), some (vI (nI i))]) (st' := []) (σ' := (upd2 σ4.1 (2, 0, h) 5 (((habs σ4 h).2 5) + (1 : Int32)), σ4.2)) fl1_ok [(59, .aload_n 0), (60, .dup), (61, .getfield 44), (64, .iconst 1), (65, .iadd), (66, .putfield 44)] (by decide +kernel) rfl rfl ?_
      generalize hσ5 : ((upd2 σ4.1 (2, 0, h) 5 (((habs σ4 h).2 5) + (1 : Int32)), σ4.2) : Sg) = σ5
      have hWσ5 := hw_F hWσ4.2.1 (by decide) hσ5
      refine g_blk (pc' := 74) (loc' := [some (vR (2, 0, h)), some (vI c), some (vI (nI i))]) (st' := []) (σ' := (upd2 σ5.1 (2, 0, h) 6 (0 : Int32), σ5.2)) fl1_ok [(69, .aload_n 0), (70, .iconst 0), (71, .putfield 48)] (by decide +kernel) rfl rfl ?_
      generalize hσ6 : ((upd2 σ5.1 (2, 0, h) 6 (0 : Int32), σ5.2) : Sg) = σ6
      have hWσ6 := hw_F hWσ5.2.1 (by decide) hσ6
      refine g_blk (pc' := 75) (loc' := [some (vR (2, 0, h)), some (vI c), some (vI (nI i))]) (st' := [vI c]) (σ' := σ6) fl1_ok [(74, .iload_n 1)] (by decide +kernel) rfl rfl ?_
      have hd1 : habs σ h = Sk := hd
      exact g_iret (by decide +kernel) ⟨rfl, ⟨by rw [hWσ6.1, hWσ5.1, hWσ4.1, hWσ3.1, hWσ2.1, hWσ1.1, hd1] <;> rfl, hWσ6.2.1, hF.tr ((((((hWσ1.2.2).tr hWσ2.2.2).tr hWσ3.2.2).tr hWσ4.2.2).tr hWσ5.2.2).tr hWσ6.2.2)⟩⟩
    · have hm : sz (habs σ h) 2 ≤ 12 := ha_N hH 2 (by decide)
      rw [nI_leI (by omega) (by omega)] at zc15
      exact absurd (by omega) zc15
  | succ k ih =>
    intro i σ hH hk hd hF
    refine g_blk (pc' := 12) (loc' := [some (vR (2, 0, h)), some (vI c), some (vI (nI i))]) (st' := [vR (0, 2, h), vI (nI i)]) (σ' := σ) fl1_ok [(7, .iload_n 2), (8, .aload_n 0), (9, .getfield 23)] (by decide +kernel) rfl rfl ?_
    refine g_callVp (0, 2, h) [] [vI (nI i)] vl_RX1_66 mi_X3_size (ct_size l hH 2 (by decide)) rfl rfl rfl rfl ⟨Nat.le_of_ble_eq_true rfl, Nat.le_of_ble_eq_true rfl⟩ rfl (Nat.le_of_ble_eq_true rfl) (by decide +kernel) ?_
    refine g_icmp_ge (off := 22) (tgt := 37) (by decide +kernel) (by decide) (fun zc15 => ?_) (fun zc15 => ?_)
    · have hm : sz (habs σ h) 2 ≤ 12 := ha_N hH 2 (by decide)
      rw [nI_leI (by omega) (by omega)] at zc15
      exact absurd zc15 (by omega)
    · have hm : sz (habs σ h) 2 ≤ 12 := ha_N hH 2 (by decide)
      rw [nI_leI (by omega) (by omega)] at zc15
      refine g_blk (pc' := 20) (loc' := [some (vR (2, 0, h)), some (vI c), some (vI (nI i))]) (st' := [vI (nI i), vR (2, 0, h)]) (σ' := σ) fl1_ok [(18, .aload_n 0), (19, .iload_n 2)] (by decide +kernel) rfl rfl ?_
      refine g_callVp (2, 0, h) [vI (nI i)] [] vl_RX1_124 mi_X1_isOpen (c_X1_isOpen l hH (nI i)) rfl rfl rfl rfl ⟨Nat.le_of_ble_eq_true rfl, Nat.le_of_ble_eq_true rfl⟩ rfl (Nat.le_of_ble_eq_true rfl) (by decide +kernel) ?_
      refine g_if_eq (off := 8) (tgt := 31) (by decide +kernel) (by decide) (fun zc23 => ?_) (fun zc23 => ?_)
      · refine g_blk (pc' := 7) (loc' := [some (vR (2, 0, h)), some (vI c), some (vI ((nI i) + (1 : Int32)))]) (st' := []) (σ' := σ) fl1_ok [(31, .iinc 2 1), (34, .goto (-27))] (by decide +kernel) rfl rfl ?_
        rw [skipF, if_pos zc23] at hd
        rw [nI_1]
        exact ih (i + 1) σ hH (by omega) hd hF
      · refine g_blk (pc' := 28) (loc' := [some (vR (2, 0, h)), some (vI c), some (vI (nI i))]) (st' := [vI (nI i), vR (2, 0, h)]) (σ' := σ) fl1_ok [(26, .aload_n 0), (27, .iload_n 2)] (by decide +kernel) rfl rfl ?_
        refine g_callV (2, 0, h) [vI (nI i)] [] vl_RX1_152 mi_X1_skip (c_X1_skip l (nI i) hH) rfl rfl rfl rfl ⟨Nat.le_of_ble_eq_true rfl, Nat.le_of_ble_eq_true rfl⟩ rfl (Nat.le_of_ble_eq_true rfl) (by decide +kernel) (fun o σ1 hPσ1 => ?_)
        obtain ⟨rfl, hWσ1⟩ := hPσ1
        refine g_blk (pc' := 7) (loc' := [some (vR (2, 0, h)), some (vI c), some (vI ((nI i) + (1 : Int32)))]) (st' := []) (σ' := σ1) fl1_ok [(31, .iinc 2 1), (34, .goto (-27))] (by decide +kernel) rfl rfl ?_
        rw [skipF, if_neg zc23] at hd
        rw [nI_1]
        exact ih (i + 1) σ1 hWσ1.2.1 (by rw [hWσ1.1]; show i + 1 + k = sz (habs σ h) 2; omega) (by rw [hWσ1.1]; exact hd) (hF.tr (hWσ1.2.2))
set_option maxHeartbeats 2000000 in
theorem c_X1_endWeek (l : Launch) {σ : Sg} {h : Nat} (hH : HOK σ h) : Con l 3 yX1_endWeek cX1_endWeek 3 (some .int) [vR (2, 0, h)] σ (fun o σ' => o = some (vI (cntL (habs σ h) (sz (habs σ h) 2))) ∧ HW h (endS (habs σ h)) σ σ') := by
  refine con_of pn_X1_endWeek (Nat.le_of_ble_eq_true rfl) (fun hPK hok => ?_)
  show G l (Rm 3) RX1 cX1_endWeek 3 (some .int) _ 0 [some (vR (2, 0, h)), none, none] [] σ
  refine g_blk (pc' := 1) (loc' := [some (vR (2, 0, h)), none, none]) (st' := [vR (2, 0, h)]) (σ' := σ) fl1_ok [(0, .aload_n 0)] (by decide +kernel) rfl rfl ?_
  refine g_callVp (2, 0, h) [] [] vl_RX1_149 mi_X1_countOpenTasks (c_X1_countOpenTasks l hH) rfl rfl rfl rfl ⟨Nat.le_of_ble_eq_true rfl, Nat.le_of_ble_eq_true rfl⟩ rfl (Nat.le_of_ble_eq_true rfl) (by decide +kernel) ?_
  refine g_blk (pc' := 7) (loc' := [some (vR (2, 0, h)), some (vI (cntL (habs σ h) (sz (habs σ h) 2))), some (vI (0 : Int32))]) (st' := []) (σ' := σ) fl1_ok [(4, .istore_n 1), (5, .iconst 0), (6, .istore_n 2)] (by decide +kernel) rfl rfl ?_
  exact lp_X1_endWeek l _ (sz (habs σ h) 2) 0 σ hH (by omega) rfl FrH.rf
set_option maxHeartbeats 2000000 in
theorem c_X1_acceptSwap (l : Launch) {σ : Sg} {h : Nat} (s : Int32) (hH : HOK σ h) : Con l 3 yX1_acceptSwap cX1_acceptSwap 7 (some .int) [vR (2, 0, h), vI s] σ (fun o σ' => o = some (vI (nI (sz (accS (habs σ h) s) 3))) ∧ HW h (accS (habs σ h) s) σ σ') := by
  refine con_of pn_X1_acceptSwap (Nat.le_of_ble_eq_true rfl) (fun hPK hok => ?_)
  show G l (Rm 3) RX1 cX1_acceptSwap 7 (some .int) _ 0 [some (vR (2, 0, h)), some (vI s), none, none, none, none, none] [] σ
  refine g_blk (pc' := 6) (loc' := [some (vR (2, 0, h)), some (vI s), none, none, none, none, none]) (st' := [vI (0 : Int32), vI s, vR (0, 3, h)]) (σ' := σ) fl1_ok [(0, .aload_n 0), (1, .getfield 26), (4, .iload_n 1), (5, .iconst 0)] (by decide +kernel) rfl rfl ?_
  refine g_callVp (0, 3, h) [vI s, vI (0 : Int32)] [] vl_RX1_58 mi_X3_cell (ct_cell l hH 3 (by decide) s (0 : Int32)) rfl rfl rfl rfl ⟨Nat.le_of_ble_eq_true rfl, Nat.le_of_ble_eq_true rfl⟩ rfl (Nat.le_of_ble_eq_true rfl) (by decide +kernel) ?_
  refine g_blk (pc' := 16) (loc' := [some (vR (2, 0, h)), some (vI s), some (vI (cl (habs σ h) 3 s (0 : Int32))), none, none, none, none]) (st' := [vI (1 : Int32), vI s, vR (0, 3, h)]) (σ' := σ) fl1_ok [(9, .istore_n 2), (10, .aload_n 0), (11, .getfield 26), (14, .iload_n 1), (15, .iconst 1)] (by decide +kernel) rfl rfl ?_
  refine g_callVp (0, 3, h) [vI s, vI (1 : Int32)] [] vl_RX1_58 mi_X3_cell (ct_cell l hH 3 (by decide) s (1 : Int32)) rfl rfl rfl rfl ⟨Nat.le_of_ble_eq_true rfl, Nat.le_of_ble_eq_true rfl⟩ rfl (Nat.le_of_ble_eq_true rfl) (by decide +kernel) ?_
  refine g_blk (pc' := 26) (loc' := [some (vR (2, 0, h)), some (vI s), some (vI (cl (habs σ h) 3 s (0 : Int32))), some (vI (cl (habs σ h) 3 s (1 : Int32))), none, none, none]) (st' := [vI (1 : Int32), vI (cl (habs σ h) 3 s (0 : Int32)), vR (0, 2, h)]) (σ' := σ) fl1_ok [(19, .istore_n 3), (20, .aload_n 0), (21, .getfield 23), (24, .iload_n 2), (25, .iconst 1)] (by decide +kernel) rfl rfl ?_
  refine g_callVp (0, 2, h) [vI (cl (habs σ h) 3 s (0 : Int32)), vI (1 : Int32)] [] vl_RX1_58 mi_X3_cell (ct_cell l hH 2 (by decide) (cl (habs σ h) 3 s (0 : Int32)) (1 : Int32)) rfl rfl rfl rfl ⟨Nat.le_of_ble_eq_true rfl, Nat.le_of_ble_eq_true rfl⟩ rfl (Nat.le_of_ble_eq_true rfl) (by decide +kernel) ?_
  refine g_blk (pc' := 37) (loc' := [some (vR (2, 0, h)), some (vI s), some (vI (cl (habs σ h) 3 s (0 : Int32))), some (vI (cl (habs σ h) 3 s (1 : Int32))), some (vI (cl (habs σ h) 2 (cl (habs σ h) 3 s (0 : Int32)) (1 : Int32))), none, none]) (st' := [vI (1 : Int32), vI (cl (habs σ h) 3 s (1 : Int32)), vR (0, 2, h)]) (σ' := σ) fl1_ok [(29, .istore 4), (31, .aload_n 0), (32, .getfield 23), (35, .iload_n 3), (36, .iconst 1)] (by decide +kernel) rfl rfl ?_
  refine g_callVp (0, 2, h) [vI (cl (habs σ h) 3 s (1 : Int32)), vI (1 : Int32)] [] vl_RX1_58 mi_X3_cell (ct_cell l hH 2 (by decide) (cl (habs σ h) 3 s (1 : Int32)) (1 : Int32)) rfl rfl rfl rfl ⟨Nat.le_of_ble_eq_true rfl, Nat.le_of_ble_eq_true rfl⟩ rfl (Nat.le_of_ble_eq_true rfl) (by decide +kernel) ?_
  refine g_blk (pc' := 45) (loc' := [some (vR (2, 0, h)), some (vI s), some (vI (cl (habs σ h) 3 s (0 : Int32))), some (vI (cl (habs σ h) 3 s (1 : Int32))), some (vI (cl (habs σ h) 2 (cl (habs σ h) 3 s (0 : Int32)) (1 : Int32))), some (vI (cl (habs σ h) 2 (cl (habs σ h) 3 s (1 : Int32)) (1 : Int32))), none]) (st' := [vI (cl (habs σ h) 3 s (1 : Int32)), vI (cl (habs σ h) 3 s (0 : Int32)), vR (2, 0, h)]) (σ' := σ) fl1_ok [(40, .istore 5), (42, .aload_n 0), (43, .iload_n 2), (44, .iload_n 3)] (by decide +kernel) rfl rfl ?_
  refine g_callVp (2, 0, h) [vI (cl (habs σ h) 3 s (0 : Int32)), vI (cl (habs σ h) 3 s (1 : Int32))] [] vl_RX1_167 mi_X1_gainOfExchange (c_X1_gainOfExchange l hH (cl (habs σ h) 3 s (0 : Int32)) (cl (habs σ h) 3 s (1 : Int32))) rfl rfl rfl rfl ⟨Nat.le_of_ble_eq_true rfl, Nat.le_of_ble_eq_true rfl⟩ rfl (Nat.le_of_ble_eq_true rfl) (by decide +kernel) ?_
  refine g_blk (pc' := 58) (loc' := [some (vR (2, 0, h)), some (vI s), some (vI (cl (habs σ h) 3 s (0 : Int32))), some (vI (cl (habs σ h) 3 s (1 : Int32))), some (vI (cl (habs σ h) 2 (cl (habs σ h) 3 s (0 : Int32)) (1 : Int32))), some (vI (cl (habs σ h) 2 (cl (habs σ h) 3 s (1 : Int32)) (1 : Int32))), some (vI (gainS (habs σ h) (cl (habs σ h) 3 s (0 : Int32)) (cl (habs σ h) 3 s (1 : Int32))))]) (st' := [vI (cl (habs σ h) 2 (cl (habs σ h) 3 s (1 : Int32)) (1 : Int32)), vI (1 : Int32), vI (cl (habs σ h) 3 s (0 : Int32)), vR (0, 2, h)]) (σ' := σ) fl1_ok [(48, .istore 6), (50, .aload_n 0), (51, .getfield 23), (54, .iload_n 2), (55, .iconst 1), (56, .iload 5)] (by decide +kernel) rfl rfl ?_
  refine g_callV (0, 2, h) [vI (cl (habs σ h) 3 s (0 : Int32)), vI (1 : Int32), vI (cl (habs σ h) 2 (cl (habs σ h) 3 s (1 : Int32)) (1 : Int32))] [] vl_RX1_36 mi_X3_write (ct_write l hH 2 (by decide) (cl (habs σ h) 3 s (0 : Int32)) (1 : Int32) (cl (habs σ h) 2 (cl (habs σ h) 3 s (1 : Int32)) (1 : Int32))) rfl rfl rfl rfl ⟨Nat.le_of_ble_eq_true rfl, Nat.le_of_ble_eq_true rfl⟩ rfl (Nat.le_of_ble_eq_true rfl) (by decide +kernel) (fun o σ1 hPσ1 => ?_)
  obtain ⟨rfl, hWσ1⟩ := hPσ1
  refine g_blk (pc' := 69) (loc' := [some (vR (2, 0, h)), some (vI s), some (vI (cl (habs σ h) 3 s (0 : Int32))), some (vI (cl (habs σ h) 3 s (1 : Int32))), some (vI (cl (habs σ h) 2 (cl (habs σ h) 3 s (0 : Int32)) (1 : Int32))), some (vI (cl (habs σ h) 2 (cl (habs σ h) 3 s (1 : Int32)) (1 : Int32))), some (vI (gainS (habs σ h) (cl (habs σ h) 3 s (0 : Int32)) (cl (habs σ h) 3 s (1 : Int32))))]) (st' := [vI (cl (habs σ h) 2 (cl (habs σ h) 3 s (0 : Int32)) (1 : Int32)), vI (1 : Int32), vI (cl (habs σ h) 3 s (1 : Int32)), vR (0, 2, h)]) (σ' := σ1) fl1_ok [(61, .aload_n 0), (62, .getfield 23), (65, .iload_n 3), (66, .iconst 1), (67, .iload 4)] (by decide +kernel) rfl rfl ?_
  refine g_callV (0, 2, h) [vI (cl (habs σ h) 3 s (1 : Int32)), vI (1 : Int32), vI (cl (habs σ h) 2 (cl (habs σ h) 3 s (0 : Int32)) (1 : Int32))] [] vl_RX1_36 mi_X3_write (ct_write l hWσ1.2.1 2 (by decide) (cl (habs σ h) 3 s (1 : Int32)) (1 : Int32) (cl (habs σ h) 2 (cl (habs σ h) 3 s (0 : Int32)) (1 : Int32))) rfl rfl rfl rfl ⟨Nat.le_of_ble_eq_true rfl, Nat.le_of_ble_eq_true rfl⟩ rfl (Nat.le_of_ble_eq_true rfl) (by decide +kernel) (fun o σ2 hPσ2 => ?_)
  obtain ⟨rfl, hWσ2⟩ := hPσ2
  refine g_blk (pc' := 82) (loc' := [some (vR (2, 0, h)), some (vI s), some (vI (cl (habs σ h) 3 s (0 : Int32))), some (vI (cl (habs σ h) 3 s (1 : Int32))), some (vI (cl (habs σ h) 2 (cl (habs σ h) 3 s (0 : Int32)) (1 : Int32))), some (vI (cl (habs σ h) 2 (cl (habs σ h) 3 s (1 : Int32)) (1 : Int32))), some (vI (gainS (habs σ h) (cl (habs σ h) 3 s (0 : Int32)) (cl (habs σ h) 3 s (1 : Int32))))]) (st' := [vI (gainS (habs σ h) (cl (habs σ h) 3 s (0 : Int32)) (cl (habs σ h) 3 s (1 : Int32))), vI (6 : Int32), vI (cl (habs σ h) 2 (cl (habs σ h) 3 s (0 : Int32)) (1 : Int32)), vR (0, 0, h)]) (σ' := σ2) fl1_ok [(72, .aload_n 0), (73, .getfield 16), (76, .iload 4), (78, .bipush 6), (80, .iload 6)] (by decide +kernel) rfl rfl ?_
  refine g_callV (0, 0, h) [vI (cl (habs σ h) 2 (cl (habs σ h) 3 s (0 : Int32)) (1 : Int32)), vI (6 : Int32), vI (gainS (habs σ h) (cl (habs σ h) 3 s (0 : Int32)) (cl (habs σ h) 3 s (1 : Int32)))] [] vl_RX1_74 mi_X3_increase (ct_increase l hWσ2.2.1 0 (by decide) (cl (habs σ h) 2 (cl (habs σ h) 3 s (0 : Int32)) (1 : Int32)) (6 : Int32) (gainS (habs σ h) (cl (habs σ h) 3 s (0 : Int32)) (cl (habs σ h) 3 s (1 : Int32)))) rfl rfl rfl rfl ⟨Nat.le_of_ble_eq_true rfl, Nat.le_of_ble_eq_true rfl⟩ rfl (Nat.le_of_ble_eq_true rfl) (by decide +kernel) (fun o σ3 hPσ3 => ?_)
  obtain ⟨rfl, hWσ3⟩ := hPσ3
  refine g_blk (pc' := 96) (loc' := [some (vR (2, 0, h)), some (vI s), some (vI (cl (habs σ h) 3 s (0 : Int32))), some (vI (cl (habs σ h) 3 s (1 : Int32))), some (vI (cl (habs σ h) 2 (cl (habs σ h) 3 s (0 : Int32)) (1 : Int32))), some (vI (cl (habs σ h) 2 (cl (habs σ h) 3 s (1 : Int32)) (1 : Int32))), some (vI (gainS (habs σ h) (cl (habs σ h) 3 s (0 : Int32)) (cl (habs σ h) 3 s (1 : Int32))))]) (st' := [vI (-(gainS (habs σ h) (cl (habs σ h) 3 s (0 : Int32)) (cl (habs σ h) 3 s (1 : Int32)))), vI (6 : Int32), vI (cl (habs σ h) 2 (cl (habs σ h) 3 s (1 : Int32)) (1 : Int32)), vR (0, 0, h)]) (σ' := σ3) fl1_ok [(85, .aload_n 0), (86, .getfield 16), (89, .iload 5), (91, .bipush 6), (93, .iload 6), (95, .ineg)] (by decide +kernel) rfl rfl ?_
  refine g_callV (0, 0, h) [vI (cl (habs σ h) 2 (cl (habs σ h) 3 s (1 : Int32)) (1 : Int32)), vI (6 : Int32), vI (-(gainS (habs σ h) (cl (habs σ h) 3 s (0 : Int32)) (cl (habs σ h) 3 s (1 : Int32))))] [] vl_RX1_74 mi_X3_increase (ct_increase l hWσ3.2.1 0 (by decide) (cl (habs σ h) 2 (cl (habs σ h) 3 s (1 : Int32)) (1 : Int32)) (6 : Int32) (-(gainS (habs σ h) (cl (habs σ h) 3 s (0 : Int32)) (cl (habs σ h) 3 s (1 : Int32))))) rfl rfl rfl rfl ⟨Nat.le_of_ble_eq_true rfl, Nat.le_of_ble_eq_true rfl⟩ rfl (Nat.le_of_ble_eq_true rfl) (by decide +kernel) (fun o σ4 hPσ4 => ?_)
  obtain ⟨rfl, hWσ4⟩ := hPσ4
  refine g_blk (pc' := 101) (loc' := [some (vR (2, 0, h)), some (vI s), some (vI (cl (habs σ h) 3 s (0 : Int32))), some (vI (cl (habs σ h) 3 s (1 : Int32))), some (vI (cl (habs σ h) 2 (cl (habs σ h) 3 s (0 : Int32)) (1 : Int32))), some (vI (cl (habs σ h) 2 (cl (habs σ h) 3 s (1 : Int32)) (1 : Int32))), some (vI (gainS (habs σ h) (cl (habs σ h) 3 s (0 : Int32)) (cl (habs σ h) 3 s (1 : Int32))))]) (st' := [vI (cl (habs σ h) 3 s (0 : Int32)), vR (2, 0, h)]) (σ' := σ4) fl1_ok [(99, .aload_n 0), (100, .iload_n 2)] (by decide +kernel) rfl rfl ?_
  refine g_callV (2, 0, h) [vI (cl (habs σ h) 3 s (0 : Int32))] [] vl_RX1_137 mi_X1_dropSwapsWith (c_X1_dropSwapsWith l (cl (habs σ h) 3 s (0 : Int32)) hWσ4.2.1) rfl rfl rfl rfl ⟨Nat.le_of_ble_eq_true rfl, Nat.le_of_ble_eq_true rfl⟩ rfl (Nat.le_of_ble_eq_true rfl) (by decide +kernel) (fun o σ5 hPσ5 => ?_)
  obtain ⟨rfl, hWσ5⟩ := hPσ5
  refine g_blk (pc' := 106) (loc' := [some (vR (2, 0, h)), some (vI s), some (vI (cl (habs σ h) 3 s (0 : Int32))), some (vI (cl (habs σ h) 3 s (1 : Int32))), some (vI (cl (habs σ h) 2 (cl (habs σ h) 3 s (0 : Int32)) (1 : Int32))), some (vI (cl (habs σ h) 2 (cl (habs σ h) 3 s (1 : Int32)) (1 : Int32))), some (vI (gainS (habs σ h) (cl (habs σ h) 3 s (0 : Int32)) (cl (habs σ h) 3 s (1 : Int32))))]) (st' := [vI (cl (habs σ h) 3 s (1 : Int32)), vR (2, 0, h)]) (σ' := σ5) fl1_ok [(104, .aload_n 0), (105, .iload_n 3)] (by decide +kernel) rfl rfl ?_
  refine g_callV (2, 0, h) [vI (cl (habs σ h) 3 s (1 : Int32))] [] vl_RX1_137 mi_X1_dropSwapsWith (c_X1_dropSwapsWith l (cl (habs σ h) 3 s (1 : Int32)) hWσ5.2.1) rfl rfl rfl rfl ⟨Nat.le_of_ble_eq_true rfl, Nat.le_of_ble_eq_true rfl⟩ rfl (Nat.le_of_ble_eq_true rfl) (by decide +kernel) (fun o σ6 hPσ6 => ?_)
  obtain ⟨rfl, hWσ6⟩ := hPσ6
  refine g_blk (pc' := 113) (loc' := [some (vR (2, 0, h)), some (vI s), some (vI (cl (habs σ h) 3 s (0 : Int32))), some (vI (cl (habs σ h) 3 s (1 : Int32))), some (vI (cl (habs σ h) 2 (cl (habs σ h) 3 s (0 : Int32)) (1 : Int32))), some (vI (cl (habs σ h) 2 (cl (habs σ h) 3 s (1 : Int32)) (1 : Int32))), some (vI (gainS (habs σ h) (cl (habs σ h) 3 s (0 : Int32)) (cl (habs σ h) 3 s (1 : Int32))))]) (st' := [vR (0, 3, h)]) (σ' := σ6) fl1_ok [(109, .aload_n 0), (110, .getfield 26)] (by decide +kernel) rfl rfl ?_
  refine g_callVp (0, 3, h) [] [] vl_RX1_66 mi_X3_size (ct_size l hWσ6.2.1 3 (by decide)) rfl rfl rfl rfl ⟨Nat.le_of_ble_eq_true rfl, Nat.le_of_ble_eq_true rfl⟩ rfl (Nat.le_of_ble_eq_true rfl) (by decide +kernel) ?_
  exact g_iret (by decide +kernel) ⟨by rw [hWσ6.1, hWσ5.1, hWσ4.1, hWσ3.1, hWσ2.1, hWσ1.1] <;> rfl, ⟨by rw [hWσ6.1, hWσ5.1, hWσ4.1, hWσ3.1, hWσ2.1, hWσ1.1] <;> rfl, hWσ6.2.1, (((((hWσ1.2.2).tr hWσ2.2.2).tr hWσ3.2.2).tr hWσ4.2.2).tr hWσ5.2.2).tr hWσ6.2.2⟩⟩
set_option maxHeartbeats 2000000 in
theorem c_X1_copyFrom (l : Launch) {σ : Sg} {h h2 : Nat} (hH : HOK σ h) (hH2 : HOK σ h2) (hne : h2 ≠ h) (hz : (habs σ h2).2 6 = 0 ∨ (habs σ h2).2 6 = 1) : Con l 2 yX1_copyFrom cX1_copyFrom 2 none [vR (2, 0, h), vR (2, 0, h2)] σ (fun o σ' => o = none ∧ HW h (habs σ h2) σ σ') := by
  refine con_of pn_X1_copyFrom (Nat.le_of_ble_eq_true rfl) (fun hPK hok => ?_)
  show G l (Rm 2) RX1 cX1_copyFrom 2 none _ 0 [some (vR (2, 0, h)), some (vR (2, 0, h2))] [] σ
  refine g_blk (pc' := 8) (loc' := [some (vR (2, 0, h)), some (vR (2, 0, h2))]) (st' := [vR (0, 0, h2), vR (0, 0, h)]) (σ' := σ) fl1_ok [(0, .aload_n 0), (1, .getfield 16), (4, .aload_n 1), (5, .getfield 16)] (by decide +kernel) rfl rfl ?_
  refine g_callV (0, 0, h) [vR (0, 0, h2)] [] vl_RX1_40 mi_X3_copyFrom (ct_copy l hH hH2 0 (by decide)) rfl rfl rfl rfl ⟨Nat.le_of_ble_eq_true rfl, Nat.le_of_ble_eq_true rfl⟩ rfl (Nat.le_of_ble_eq_true rfl) (by decide +kernel) (fun o σ1 hPσ1 => ?_)
  obtain ⟨rfl, hWσ1⟩ := hPσ1
  refine g_blk (pc' := 19) (loc' := [some (vR (2, 0, h)), some (vR (2, 0, h2))]) (st' := [vR (0, 1, h2), vR (0, 1, h)]) (σ' := σ1) fl1_ok [(11, .aload_n 0), (12, .getfield 20), (15, .aload_n 1), (16, .getfield 20)] (by decide +kernel) rfl rfl ?_
  refine g_callV (0, 1, h) [vR (0, 1, h2)] [] vl_RX1_40 mi_X3_copyFrom (ct_copy l hWσ1.2.1 ((hw_other hne (hWσ1.2.2)).2 hH2) 1 (by decide)) rfl rfl rfl rfl ⟨Nat.le_of_ble_eq_true rfl, Nat.le_of_ble_eq_true rfl⟩ rfl (Nat.le_of_ble_eq_true rfl) (by decide +kernel) (fun o σ2 hPσ2 => ?_)
  obtain ⟨rfl, hWσ2⟩ := hPσ2
  refine g_blk (pc' := 30) (loc' := [some (vR (2, 0, h)), some (vR (2, 0, h2))]) (st' := [vR (0, 2, h2), vR (0, 2, h)]) (σ' := σ2) fl1_ok [(22, .aload_n 0), (23, .getfield 23), (26, .aload_n 1), (27, .getfield 23)] (by decide +kernel) rfl rfl ?_
  refine g_callV (0, 2, h) [vR (0, 2, h2)] [] vl_RX1_40 mi_X3_copyFrom (ct_copy l hWσ2.2.1 ((hw_other hne ((hWσ1.2.2).tr hWσ2.2.2)).2 hH2) 2 (by decide)) rfl rfl rfl rfl ⟨Nat.le_of_ble_eq_true rfl, Nat.le_of_ble_eq_true rfl⟩ rfl (Nat.le_of_ble_eq_true rfl) (by decide +kernel) (fun o σ3 hPσ3 => ?_)
  obtain ⟨rfl, hWσ3⟩ := hPσ3
  refine g_blk (pc' := 41) (loc' := [some (vR (2, 0, h)), some (vR (2, 0, h2))]) (st' := [vR (0, 3, h2), vR (0, 3, h)]) (σ' := σ3) fl1_ok [(33, .aload_n 0), (34, .getfield 26), (37, .aload_n 1), (38, .getfield 26)] (by decide +kernel) rfl rfl ?_
  refine g_callV (0, 3, h) [vR (0, 3, h2)] [] vl_RX1_40 mi_X3_copyFrom (ct_copy l hWσ3.2.1 ((hw_other hne (((hWσ1.2.2).tr hWσ2.2.2).tr hWσ3.2.2)).2 hH2) 3 (by decide)) rfl rfl rfl rfl ⟨Nat.le_of_ble_eq_true rfl, Nat.le_of_ble_eq_true rfl⟩ rfl (Nat.le_of_ble_eq_true rfl) (by decide +kernel) (fun o σ4 hPσ4 => ?_)
  obtain ⟨rfl, hWσ4⟩ := hPσ4
  refine g_blk (pc' := 52) (loc' := [some (vR (2, 0, h)), some (vR (2, 0, h2))]) (st' := [vR (0, 4, h2), vR (0, 4, h)]) (σ' := σ4) fl1_ok [(44, .aload_n 0), (45, .getfield 29), (48, .aload_n 1), (49, .getfield 29)] (by decide +kernel) rfl rfl ?_
  refine g_callV (0, 4, h) [vR (0, 4, h2)] [] vl_RX1_40 mi_X3_copyFrom (ct_copy l hWσ4.2.1 ((hw_other hne ((((hWσ1.2.2).tr hWσ2.2.2).tr hWσ3.2.2).tr hWσ4.2.2)).2 hH2) 4 (by decide)) rfl rfl rfl rfl ⟨Nat.le_of_ble_eq_true rfl, Nat.le_of_ble_eq_true rfl⟩ rfl (Nat.le_of_ble_eq_true rfl) (by decide +kernel) (fun o σ5 hPσ5 => ?_)
  obtain ⟨rfl, hWσ5⟩ := hPσ5
  refine g_blk (pc' := 63) (loc' := [some (vR (2, 0, h)), some (vR (2, 0, h2))]) (st' := []) (σ' := (upd2 σ5.1 (2, 0, h) 5 ((habs σ5 h2).2 5), σ5.2)) fl1_ok [(55, .aload_n 0), (56, .aload_n 1), (57, .getfield 44), (60, .putfield 44)] (by decide +kernel) rfl rfl ?_
  generalize hσ6 : ((upd2 σ5.1 (2, 0, h) 5 ((habs σ5 h2).2 5), σ5.2) : Sg) = σ6
  have hWσ6 := hw_F hWσ5.2.1 (by decide) hσ6
  refine g_blk (pc' := 68) (loc' := [some (vR (2, 0, h)), some (vR (2, 0, h2))]) (st' := [vI ((habs σ6 h2).2 6), vR (2, 0, h)]) (σ' := σ6) fl1_ok [(63, .aload_n 0), (64, .aload_n 1), (65, .getfield 48)] (by decide +kernel) rfl rfl ?_
  refine g_put (index := 48) (k := 6) (ci := 1) fl1_ok (by decide) rfl rfl rfl rfl (Or.inr (by rw [(hw_other hne ((((((hWσ1.2.2).tr hWσ2.2.2).tr hWσ3.2.2).tr hWσ4.2.2).tr hWσ5.2.2).tr hWσ6.2.2)).1]; exact hz)) (by decide +kernel) ?_
  generalize hσ7 : ((upd2 σ6.1 (2, 0, h) 6 ((habs σ6 h2).2 6), σ6.2) : Sg) = σ7
  have hWσ7 := hw_F hWσ6.2.1 (by decide) hσ7
  refine g_blk (pc' := 79) (loc' := [some (vR (2, 0, h)), some (vR (2, 0, h2))]) (st' := []) (σ' := (upd2 σ7.1 (2, 0, h) 7 ((habs σ7 h2).2 7), σ7.2)) fl1_ok [(71, .aload_n 0), (72, .aload_n 1), (73, .getfield 52), (76, .putfield 52)] (by decide +kernel) rfl rfl ?_
  generalize hσ8 : ((upd2 σ7.1 (2, 0, h) 7 ((habs σ7 h2).2 7), σ7.2) : Sg) = σ8
  have hWσ8 := hw_F hWσ7.2.1 (by decide) hσ8
  refine g_blk (pc' := 87) (loc' := [some (vR (2, 0, h)), some (vR (2, 0, h2))]) (st' := []) (σ' := (upd2 σ8.1 (2, 0, h) 8 ((habs σ8 h2).2 8), σ8.2)) fl1_ok [(79, .aload_n 0), (80, .aload_n 1), (81, .getfield 55), (84, .putfield 55)] (by decide +kernel) rfl rfl ?_
  generalize hσ9 : ((upd2 σ8.1 (2, 0, h) 8 ((habs σ8 h2).2 8), σ8.2) : Sg) = σ9
  have hWσ9 := hw_F hWσ8.2.1 (by decide) hσ9
  refine g_vret (by decide +kernel) ⟨rfl, ⟨?_, hWσ9.2.1, ((((((((hWσ1.2.2).tr hWσ2.2.2).tr hWσ3.2.2).tr hWσ4.2.2).tr hWσ5.2.2).tr hWσ6.2.2).tr hWσ7.2.2).tr hWσ8.2.2).tr hWσ9.2.2⟩⟩
  have ho := fun {σ1 : Sg} (hF : FrH h σ σ1) => (hw_other hne hF).1
  rw [hWσ9.1, hWσ8.1, hWσ7.1, hWσ6.1, hWσ5.1, hWσ4.1, hWσ3.1, hWσ2.1, hWσ1.1]
  rw [ho ((((((((hWσ1.2.2).tr hWσ2.2.2).tr hWσ3.2.2).tr hWσ4.2.2).tr hWσ5.2.2).tr hWσ6.2.2).tr hWσ7.2.2).tr hWσ8.2.2), ho (((((((hWσ1.2.2).tr hWσ2.2.2).tr hWσ3.2.2).tr hWσ4.2.2).tr hWσ5.2.2).tr hWσ6.2.2).tr hWσ7.2.2), ho ((((((hWσ1.2.2).tr hWσ2.2.2).tr hWσ3.2.2).tr hWσ4.2.2).tr hWσ5.2.2).tr hWσ6.2.2), ho (((((hWσ1.2.2).tr hWσ2.2.2).tr hWσ3.2.2).tr hWσ4.2.2).tr hWσ5.2.2), ho ((((hWσ1.2.2).tr hWσ2.2.2).tr hWσ3.2.2).tr hWσ4.2.2), ho (((hWσ1.2.2).tr hWσ2.2.2).tr hWσ3.2.2), ho ((hWσ1.2.2).tr hWσ2.2.2), ho (hWσ1.2.2)]
  exact cp_all (habs σ h) (habs σ h2) (ha_hi σ h) (ha_hi σ h2) (ha_hf σ h) (ha_hf σ h2)
end
section
/-! HISTORY: the states kept, as a list of houses -/
def hN (σ : Sg) : Nat := (σ.1 (3, 0, 0) 1).toNatClampNeg
def HiOK (σ : Sg) : Prop := hN σ ≤ 6 ∧ σ.1 (3, 0, 0) 1 = nI (hN σ) ∧ (∀ i, i < 6 → 2 ≤ σ.2 i) ∧ (∀ i j, i < 6 → j < 6 → σ.2 i = σ.2 j → i = j) ∧ ∀ i, i < 6 → HOK σ (σ.2 i)
def hist (σ : Sg) : List HA := (List.range (hN σ)).map (fun i => habs σ (σ.2 i))
def isHi (q : Lo) : Prop := q = (3, 0, 0) ∨ (q.1 ≤ 2 ∧ 2 ≤ q.2.2)
def FrHi (σ σ' : Sg) : Prop := ∀ q, ¬ isHi q → σ'.1 q = σ.1 q
def keepL (l : List HA) (S : HA) : List HA := (if l.length < 6 then l else l.tail) ++ [S]
theorem shp_only (p : Lo) (h : p ≠ (4, 0, 0)) (m : Nat) : shp p ≠ .inr (2, m) := by
  intro e
  unfold shp at e
  split at e <;> first | (cases e; done) | (exact h rfl) | (have e2 := Sum.inr.inj e; have e3 := congrArg Prod.fst e2; simp at e3)
theorem hN_of {σ : Sg} {n : Nat} (hn : n ≤ 6) (e : σ.1 (3, 0, 0) 1 = nI n) : hN σ = n := by rw [hN, e, nI_clamp (by omega)]
theorem habs_of {σ σ' : Sg} {h : Nat} (e0 : ∀ j, σ'.1 (0, j, h) = σ.1 (0, j, h)) (e1 : ∀ j, σ'.1 (1, j, h) = σ.1 (1, j, h)) (e2 : σ'.1 (2, 0, h) = σ.1 (2, 0, h)) : habs σ' h = habs σ h ∧ (HOK σ h → HOK σ' h) := by
  refine ⟨Prod.ext ?_ ?_, fun hH => ⟨hH.1, fun j hj => (tabs_of (e0 j) (e1 j)).2 (hH.2 j hj)⟩⟩
  · funext j
    show (if j < 5 then tabs σ' j h else _) = if j < 5 then tabs σ j h else _
    rw [(tabs_of (e0 j) (e1 j)).1]
  · funext k
    show (if 5 ≤ k ∧ k ≤ 8 then σ'.1 (2, 0, h) k else 0) = if 5 ≤ k ∧ k ≤ 8 then σ.1 (2, 0, h) k else 0
    rw [e2]
theorem notHi {k j h : Nat} (hk : k ≠ 3) (hh : h < 2) : ¬ isHi (k, j, h) := by
  rintro (q | q)
  · exact hk (congrArg Prod.fst q)
  · have : 2 ≤ h := q.2
    omega
theorem FrHi.house {σ σ' : Sg} {h : Nat} (hF : FrHi σ σ') (hh : h < 2) : habs σ' h = habs σ h ∧ (HOK σ h → HOK σ' h) :=
  habs_of (fun j => hF (0, j, h) (notHi (by decide) hh)) (fun j => hF (1, j, h) (notHi (by decide) hh)) (hF (2, 0, h) (notHi (by decide) hh))
-- the number of states is set
theorem hi_N {σ σ' : Sg} {n : Nat} (hn : n ≤ 6) (e : (upd2 σ.1 (3, 0, 0) 1 (nI n), σ.2) = σ') (hb : (∀ i, i < 6 → 2 ≤ σ.2 i) ∧ (∀ i j, i < 6 → j < 6 → σ.2 i = σ.2 j → i = j) ∧ ∀ i, i < 6 → HOK σ (σ.2 i)) : HiOK σ' ∧ hN σ' = n ∧ σ'.2 = σ.2 ∧ (∀ h, habs σ' h = habs σ h ∧ (HOK σ h → HOK σ' h)) ∧ ∀ q, q ≠ (3, 0, 0) → σ'.1 q = σ.1 q := by
  subst e
  have ho : ∀ q, q ≠ (3, 0, 0) → (upd2 σ.1 (3, 0, 0) 1 (nI n), σ.2).1 q = σ.1 q := fun q hq => upd2_ne σ.1 (q := (3, 0, 0)) (p := q) 1 (nI n) hq
  have e0 : (upd2 σ.1 (3, 0, 0) 1 (nI n), σ.2).1 (3, 0, 0) 1 = nI n := by
    show upd2 σ.1 (3, 0, 0) 1 (nI n) (3, 0, 0) 1 = nI n
    rw [upd2_same]
    simp [upd]
  have hh : ∀ h, habs (upd2 σ.1 (3, 0, 0) 1 (nI n), σ.2) h = habs σ h ∧ (HOK σ h → HOK (upd2 σ.1 (3, 0, 0) 1 (nI n), σ.2) h) := fun h => habs_of (fun j => ho _ (by simp)) (fun j => ho _ (by simp)) (ho _ (by simp))
  have hnn := hN_of hn e0
  refine ⟨⟨by rw [hnn]; exact hn, by rw [hnn]; exact e0, hb.1, hb.2.1, fun i hi => (hh _).2 (hb.2.2 i hi)⟩, hnn, rfl, hh, ho⟩
theorem hist_eq {σ : Sg} {n : Nat} (h : hN σ = n) : hist σ = (List.range n).map (fun i => habs σ (σ.2 i)) := by rw [hist, h]
-- keeping, after the oldest is dropped: the house is copied to the place n, and n + 1 are kept
theorem keep_end {σ σ1 σ2 : Sg} {n : Nat} {S : HA} (hn : n < 6) (hi : (∀ i, i < 6 → 2 ≤ σ.2 i) ∧ (∀ i j, i < 6 → j < 6 → σ.2 i = σ.2 j → i = j) ∧ ∀ i, i < 6 → HOK σ (σ.2 i)) (hW : HW (σ.2 n) S σ σ1) (e : (upd2 σ1.1 (3, 0, 0) 1 (nI (n + 1)), σ1.2) = σ2) :
    HiOK σ2 ∧ hist σ2 = (List.range n).map (fun i => habs σ (σ.2 i)) ++ [S] ∧ FrHi σ σ2 := by
  have hp : σ1.2 = σ.2 := hW.2.2.2
  have hb1 : (∀ i, i < 6 → 2 ≤ σ1.2 i) ∧ (∀ i j, i < 6 → j < 6 → σ1.2 i = σ1.2 j → i = j) ∧ ∀ i, i < 6 → HOK σ1 (σ1.2 i) := by
    rw [hp]
    refine ⟨hi.1, hi.2.1, fun i h6 => ?_⟩
    by_cases hin : σ.2 i = σ.2 n
    · rw [hin]; exact hW.2.1
    · exact (hw_other hin hW.2.2).2 (hi.2.2 i h6)
  obtain ⟨h1, h2, h3, h4, h5⟩ := hi_N (show n + 1 ≤ 6 by omega) e hb1
  refine ⟨h1, ?_, fun q hq => ?_⟩
  · rw [hist_eq h2, List.range_succ, List.map_append, List.map_cons, List.map_nil]
    congr 1
    · apply List.map_congr_left
      intro i him
      have hin : i < n := List.mem_range.mp him
      rw [(h4 _).1, h3, hp, (hw_other (h2 := σ.2 i) (fun z => absurd (hi.2.1 i n (by omega) hn z) (by omega)) hW.2.2).1]
    · rw [(h4 _).1, h3, hp, hW.1]
  · rw [h5 q (fun z => hq (Or.inl z))]
    have h2n := hi.1 n hn
    refine hW.2.2.1 q (fun z => hq (Or.inr ?_)) (fun j hj => ⟨fun z => hq (Or.inr ?_), fun z => hq (Or.inr ?_)⟩)
    · rw [z]; exact ⟨Nat.le_refl 2, h2n⟩
    · rw [z]; exact ⟨Nat.zero_le 2, h2n⟩
    · rw [z]; exact ⟨(by decide : 1 ≤ 2), h2n⟩
end
section
/-! HISTORY: contracts (laid by wip/whole/mk13.py) -/
theorem g_callVq {l : Launch} {R : Room} {own : String} {cc : ByteArray} {nL : Nat} {ret : Option FieldType} {post : Option AV → Sg → Prop} {pc : Nat} {loc : List (Option AV)} {st : List AV} {σ : Sg} {k idx maxL n : Nat} {y : MethodName} {bytes : ByteArray} {rt : Option FieldType} {q : Lo} (b : Lo) (As : List AV) (rest : List AV) {x : Nat × List FS} {r : vw_C}
    (hl : VLink own idx y) (hm : MI y bytes maxL rt n) (hC : Con l k y bytes maxL rt (vR b :: As) σ (fun o σ' => o = some (vR q) ∧ σ' = σ)) (hsh : shp b = .inl x) (hc : vwCl[x.1]? = some r) (hcl : r.1 = y.cls) (hn : As.length = n) (hR : k + 1 ≤ R.frames ∧ 8 + (maxL + 11) + 32 * k ≤ R.locals)
    (hs : st = As.reverse ++ vR b :: rest) (hcat : (rest.map aCat).sum ≤ 8) (hd : decode cc pc = .ok (.invokevirtual idx, 3))
    (kk : G l R own cc nL ret post (pc + 3) loc (vR q :: rest) σ) : G l R own cc nL ret post pc loc st σ :=
  g_callV b As rest hl hm hC hsh hc hcl hn hR hs hcat hd (fun o σ' hP => by obtain ⟨rfl, h⟩ := hP; rw [h]; exact kk)
set_option maxHeartbeats 2000000 in
theorem c_X0_stateAt (l : Launch) {σ : Sg} {i : Nat} (hi : i < 6) : Con l 0 yX0_stateAt cX0_stateAt 2 (some (.object "CleaningRota$House")) [vR (3, 0, 0), vI (nI i)] σ (fun o σ' => o = some (vR (2, 0, σ.2 i)) ∧ σ' = σ) := by
  refine con_of pn_X0_stateAt (Nat.le_of_ble_eq_true rfl) (fun hPK hok => ?_)
  show G l (Rm 0) RX0 cX0_stateAt 2 (some (.object "CleaningRota$House")) _ 0 [some (vR (3, 0, 0)), some (vI (nI i))] [] σ
  refine g_blk (pc' := 1) (loc' := [some (vR (3, 0, 0)), some (vI (nI i))]) (st' := [vI (nI i)]) (σ' := σ) fl0_ok [(0, .iload_n 1)] (by decide +kernel) rfl rfl ?_
  refine g_if_lt (off := 21) (tgt := 22) (by decide +kernel) (by decide) (fun zc1 => ?_) (fun zc1 => ?_)
  · exact absurd zc1 (nI_pos (by omega))
  · refine g_blk (pc' := 9) (loc' := [some (vR (3, 0, 0)), some (vI (nI i))]) (st' := [vR (4, 0, 0), vI (nI i)]) (σ' := σ) fl0_ok [(4, .iload_n 1), (5, .aload_n 0), (6, .getfield 11)] (by decide +kernel) rfl rfl ?_
    refine g_alen (x := (2, 6)) rfl (Nat.le_of_ble_eq_true rfl) (by decide +kernel) ?_
    refine g_icmp_ge (off := 12) (tgt := 22) (by decide +kernel) (by decide) (fun zc10 => ?_) (fun zc10 => ?_)
    · exact absurd zc10 (nI_ge hi (by decide))
    · refine g_blk (pc' := 18) (loc' := [some (vR (3, 0, 0)), some (vI (nI i))]) (st' := [vI (nI i), vR (4, 0, 0)]) (σ' := σ) fl0_ok [(13, .aload_n 0), (14, .getfield 11), (17, .iload_n 1)] (by decide +kernel) rfl rfl ?_
      refine g_aald (n := 6) rfl (vp_in_nI hi (by decide)) (by decide +kernel) ?_
      rw [nI_clamp (by omega)]
      refine g_blk (pc' := 23) (loc' := [some (vR (3, 0, 0)), some (vI (nI i))]) (st' := [vR (2, 0, (σ.2 i))]) (σ' := σ) fl0_ok [(19, .goto 4)] (by decide +kernel) rfl rfl ?_
      exact g_aretR (by decide +kernel) ⟨rfl, rfl⟩
set_option maxHeartbeats 2000000 in
theorem c_X0_dropOldest (l : Launch) {σ : Sg}  (hk : σ.1 (3, 0, 0) 1 = nI 6) : Con l 0 yX0_dropOldest cX0_dropOldest 3 none [vR (3, 0, 0)] σ (fun o σ' => o = none ∧ σ'.1 = upd2 σ.1 (3, 0, 0) 1 (nI 5) ∧ (∀ i, i < 5 → σ'.2 i = σ.2 (i + 1)) ∧ σ'.2 5 = σ.2 0) := by
  refine con_of pn_X0_dropOldest (Nat.le_of_ble_eq_true rfl) (fun hPK hok => ?_)
  show G l (Rm 0) RX0 cX0_dropOldest 3 none _ 0 [some (vR (3, 0, 0)), none, none] [] σ
  refine g_blk (pc' := 7) (loc' := [some (vR (3, 0, 0)), some (vI (1 : Int32)), none]) (st' := [vR (4, 0, 0), vI (1 : Int32)]) (σ' := σ) fl0_ok [(0, .iconst 1), (1, .istore_n 1), (2, .iload_n 1), (3, .aload_n 0), (4, .getfield 11)] (by decide +kernel) rfl rfl ?_
  refine g_alen (x := (2, 6)) rfl (Nat.le_of_ble_eq_true rfl) (by decide +kernel) ?_
  refine g_icmp_ge (off := 39) (tgt := 47) (by decide +kernel) (by decide) (fun zc8 => ?_) (fun zc8 => ?_)
  · exact absurd zc8 (by decide)
  · refine g_blk (pc' := 16) (loc' := [some (vR (3, 0, 0)), some (vI (1 : Int32)), none]) (st' := [vI (1 : Int32), vR (4, 0, 0)]) (σ' := σ) fl0_ok [(11, .aload_n 0), (12, .getfield 11), (15, .iload_n 1)] (by decide +kernel) rfl rfl ?_
    refine g_aald (n := 6) rfl (ibt_ok (by decide +kernel)) (by decide +kernel) ?_
    refine g_blk (pc' := 30) (loc' := [some (vR (3, 0, 0)), some (vI (1 : Int32)), some (vR (2, 0, (σ.2 1)))]) (st' := [vI (0 : Int32), vR (4, 0, 0), vI (1 : Int32), vR (4, 0, 0)]) (σ' := σ) fl0_ok [(17, .astore_n 2), (18, .aload_n 0), (19, .getfield 11), (22, .iload_n 1), (23, .aload_n 0), (24, .getfield 11), (27, .iload_n 1), (28, .iconst 1), (29, .isub)] (by decide +kernel) rfl rfl ?_
    refine g_aald (n := 6) rfl (ibt_ok (by decide +kernel)) (by decide +kernel) ?_
    refine g_aast (n := 6) (h := (σ.2 0)) (hPK _) rfl shp_only (ibt_ok (by decide +kernel)) (by decide +kernel) ?_
    refine g_blk (pc' := 40) (loc' := [some (vR (3, 0, 0)), some (vI (1 : Int32)), some (vR (2, 0, (σ.2 1)))]) (st' := [vR (2, 0, (σ.2 1)), vI (0 : Int32), vR (4, 0, 0)]) (σ' := (σ.1, (va_up σ.2 1 (σ.2 0)))) fl0_ok [(32, .aload_n 0), (33, .getfield 11), (36, .iload_n 1), (37, .iconst 1), (38, .isub), (39, .aload_n 2)] (by decide +kernel) rfl rfl ?_
    refine g_aast (n := 6) (h := (σ.2 1)) (hPK _) rfl shp_only (ibt_ok (by decide +kernel)) (by decide +kernel) ?_
    refine g_blk (pc' := 7) (loc' := [some (vR (3, 0, 0)), some (vI (2 : Int32)), some (vR (2, 0, (σ.2 1)))]) (st' := [vR (4, 0, 0), vI (2 : Int32)]) (σ' := (σ.1, (va_up (va_up σ.2 1 (σ.2 0)) 0 (σ.2 1)))) fl0_ok [(41, .iinc 1 1), (44, .goto (-42)), (2, .iload_n 1), (3, .aload_n 0), (4, .getfield 11)] (by decide +kernel) rfl rfl ?_
    refine g_alen (x := (2, 6)) rfl (Nat.le_of_ble_eq_true rfl) (by decide +kernel) ?_
    refine g_icmp_ge (off := 39) (tgt := 47) (by decide +kernel) (by decide) (fun zc8 => ?_) (fun zc8 => ?_)
    · exact absurd zc8 (by decide)
    · refine g_blk (pc' := 16) (loc' := [some (vR (3, 0, 0)), some (vI (2 : Int32)), some (vR (2, 0, (σ.2 1)))]) (st' := [vI (2 : Int32), vR (4, 0, 0)]) (σ' := (σ.1, (va_up (va_up σ.2 1 (σ.2 0)) 0 (σ.2 1)))) fl0_ok [(11, .aload_n 0), (12, .getfield 11), (15, .iload_n 1)] (by decide +kernel) rfl rfl ?_
      refine g_aald (n := 6) rfl (ibt_ok (by decide +kernel)) (by decide +kernel) ?_
      refine g_blk (pc' := 30) (loc' := [some (vR (3, 0, 0)), some (vI (2 : Int32)), some (vR (2, 0, (σ.2 2)))]) (st' := [vI (1 : Int32), vR (4, 0, 0), vI (2 : Int32), vR (4, 0, 0)]) (σ' := (σ.1, (va_up (va_up σ.2 1 (σ.2 0)) 0 (σ.2 1)))) fl0_ok [(17, .astore_n 2), (18, .aload_n 0), (19, .getfield 11), (22, .iload_n 1), (23, .aload_n 0), (24, .getfield 11), (27, .iload_n 1), (28, .iconst 1), (29, .isub)] (by decide +kernel) rfl rfl ?_
      refine g_aald (n := 6) rfl (ibt_ok (by decide +kernel)) (by decide +kernel) ?_
      refine g_aast (n := 6) (h := (σ.2 0)) (hPK _) rfl shp_only (ibt_ok (by decide +kernel)) (by decide +kernel) ?_
      refine g_blk (pc' := 40) (loc' := [some (vR (3, 0, 0)), some (vI (2 : Int32)), some (vR (2, 0, (σ.2 2)))]) (st' := [vR (2, 0, (σ.2 2)), vI (1 : Int32), vR (4, 0, 0)]) (σ' := (σ.1, (va_up (va_up (va_up σ.2 1 (σ.2 0)) 0 (σ.2 1)) 2 (σ.2 0)))) fl0_ok [(32, .aload_n 0), (33, .getfield 11), (36, .iload_n 1), (37, .iconst 1), (38, .isub), (39, .aload_n 2)] (by decide +kernel) rfl rfl ?_
      refine g_aast (n := 6) (h := (σ.2 2)) (hPK _) rfl shp_only (ibt_ok (by decide +kernel)) (by decide +kernel) ?_
      refine g_blk (pc' := 7) (loc' := [some (vR (3, 0, 0)), some (vI (3 : Int32)), some (vR (2, 0, (σ.2 2)))]) (st' := [vR (4, 0, 0), vI (3 : Int32)]) (σ' := (σ.1, (va_up (va_up (va_up (va_up σ.2 1 (σ.2 0)) 0 (σ.2 1)) 2 (σ.2 0)) 1 (σ.2 2)))) fl0_ok [(41, .iinc 1 1), (44, .goto (-42)), (2, .iload_n 1), (3, .aload_n 0), (4, .getfield 11)] (by decide +kernel) rfl rfl ?_
      refine g_alen (x := (2, 6)) rfl (Nat.le_of_ble_eq_true rfl) (by decide +kernel) ?_
      refine g_icmp_ge (off := 39) (tgt := 47) (by decide +kernel) (by decide) (fun zc8 => ?_) (fun zc8 => ?_)
      · exact absurd zc8 (by decide)
      · refine g_blk (pc' := 16) (loc' := [some (vR (3, 0, 0)), some (vI (3 : Int32)), some (vR (2, 0, (σ.2 2)))]) (st' := [vI (3 : Int32), vR (4, 0, 0)]) (σ' := (σ.1, (va_up (va_up (va_up (va_up σ.2 1 (σ.2 0)) 0 (σ.2 1)) 2 (σ.2 0)) 1 (σ.2 2)))) fl0_ok [(11, .aload_n 0), (12, .getfield 11), (15, .iload_n 1)] (by decide +kernel) rfl rfl ?_
        refine g_aald (n := 6) rfl (ibt_ok (by decide +kernel)) (by decide +kernel) ?_
        refine g_blk (pc' := 30) (loc' := [some (vR (3, 0, 0)), some (vI (3 : Int32)), some (vR (2, 0, (σ.2 3)))]) (st' := [vI (2 : Int32), vR (4, 0, 0), vI (3 : Int32), vR (4, 0, 0)]) (σ' := (σ.1, (va_up (va_up (va_up (va_up σ.2 1 (σ.2 0)) 0 (σ.2 1)) 2 (σ.2 0)) 1 (σ.2 2)))) fl0_ok [(17, .astore_n 2), (18, .aload_n 0), (19, .getfield 11), (22, .iload_n 1), (23, .aload_n 0), (24, .getfield 11), (27, .iload_n 1), (28, .iconst 1), (29, .isub)] (by decide +kernel) rfl rfl ?_
        refine g_aald (n := 6) rfl (ibt_ok (by decide +kernel)) (by decide +kernel) ?_
        refine g_aast (n := 6) (h := (σ.2 0)) (hPK _) rfl shp_only (ibt_ok (by decide +kernel)) (by decide +kernel) ?_
        refine g_blk (pc' := 40) (loc' := [some (vR (3, 0, 0)), some (vI (3 : Int32)), some (vR (2, 0, (σ.2 3)))]) (st' := [vR (2, 0, (σ.2 3)), vI (2 : Int32), vR (4, 0, 0)]) (σ' := (σ.1, (va_up (va_up (va_up (va_up (va_up σ.2 1 (σ.2 0)) 0 (σ.2 1)) 2 (σ.2 0)) 1 (σ.2 2)) 3 (σ.2 0)))) fl0_ok [(32, .aload_n 0), (33, .getfield 11), (36, .iload_n 1), (37, .iconst 1), (38, .isub), (39, .aload_n 2)] (by decide +kernel) rfl rfl ?_
        refine g_aast (n := 6) (h := (σ.2 3)) (hPK _) rfl shp_only (ibt_ok (by decide +kernel)) (by decide +kernel) ?_
        refine g_blk (pc' := 7) (loc' := [some (vR (3, 0, 0)), some (vI (4 : Int32)), some (vR (2, 0, (σ.2 3)))]) (st' := [vR (4, 0, 0), vI (4 : Int32)]) (σ' := (σ.1, (va_up (va_up (va_up (va_up (va_up (va_up σ.2 1 (σ.2 0)) 0 (σ.2 1)) 2 (σ.2 0)) 1 (σ.2 2)) 3 (σ.2 0)) 2 (σ.2 3)))) fl0_ok [(41, .iinc 1 1), (44, .goto (-42)), (2, .iload_n 1), (3, .aload_n 0), (4, .getfield 11)] (by decide +kernel) rfl rfl ?_
        refine g_alen (x := (2, 6)) rfl (Nat.le_of_ble_eq_true rfl) (by decide +kernel) ?_
        refine g_icmp_ge (off := 39) (tgt := 47) (by decide +kernel) (by decide) (fun zc8 => ?_) (fun zc8 => ?_)
        · exact absurd zc8 (by decide)
        · refine g_blk (pc' := 16) (loc' := [some (vR (3, 0, 0)), some (vI (4 : Int32)), some (vR (2, 0, (σ.2 3)))]) (st' := [vI (4 : Int32), vR (4, 0, 0)]) (σ' := (σ.1, (va_up (va_up (va_up (va_up (va_up (va_up σ.2 1 (σ.2 0)) 0 (σ.2 1)) 2 (σ.2 0)) 1 (σ.2 2)) 3 (σ.2 0)) 2 (σ.2 3)))) fl0_ok [(11, .aload_n 0), (12, .getfield 11), (15, .iload_n 1)] (by decide +kernel) rfl rfl ?_
          refine g_aald (n := 6) rfl (ibt_ok (by decide +kernel)) (by decide +kernel) ?_
          refine g_blk (pc' := 30) (loc' := [some (vR (3, 0, 0)), some (vI (4 : Int32)), some (vR (2, 0, (σ.2 4)))]) (st' := [vI (3 : Int32), vR (4, 0, 0), vI (4 : Int32), vR (4, 0, 0)]) (σ' := (σ.1, (va_up (va_up (va_up (va_up (va_up (va_up σ.2 1 (σ.2 0)) 0 (σ.2 1)) 2 (σ.2 0)) 1 (σ.2 2)) 3 (σ.2 0)) 2 (σ.2 3)))) fl0_ok [(17, .astore_n 2), (18, .aload_n 0), (19, .getfield 11), (22, .iload_n 1), (23, .aload_n 0), (24, .getfield 11), (27, .iload_n 1), (28, .iconst 1), (29, .isub)] (by decide +kernel) rfl rfl ?_
          refine g_aald (n := 6) rfl (ibt_ok (by decide +kernel)) (by decide +kernel) ?_
          refine g_aast (n := 6) (h := (σ.2 0)) (hPK _) rfl shp_only (ibt_ok (by decide +kernel)) (by decide +kernel) ?_
          refine g_blk (pc' := 40) (loc' := [some (vR (3, 0, 0)), some (vI (4 : Int32)), some (vR (2, 0, (σ.2 4)))]) (st' := [vR (2, 0, (σ.2 4)), vI (3 : Int32), vR (4, 0, 0)]) (σ' := (σ.1, (va_up (va_up (va_up (va_up (va_up (va_up (va_up σ.2 1 (σ.2 0)) 0 (σ.2 1)) 2 (σ.2 0)) 1 (σ.2 2)) 3 (σ.2 0)) 2 (σ.2 3)) 4 (σ.2 0)))) fl0_ok [(32, .aload_n 0), (33, .getfield 11), (36, .iload_n 1), (37, .iconst 1), (38, .isub), (39, .aload_n 2)] (by decide +kernel) rfl rfl ?_
          refine g_aast (n := 6) (h := (σ.2 4)) (hPK _) rfl shp_only (ibt_ok (by decide +kernel)) (by decide +kernel) ?_
          refine g_blk (pc' := 7) (loc' := [some (vR (3, 0, 0)), some (vI (5 : Int32)), some (vR (2, 0, (σ.2 4)))]) (st' := [vR (4, 0, 0), vI (5 : Int32)]) (σ' := (σ.1, (va_up (va_up (va_up (va_up (va_up (va_up (va_up (va_up σ.2 1 (σ.2 0)) 0 (σ.2 1)) 2 (σ.2 0)) 1 (σ.2 2)) 3 (σ.2 0)) 2 (σ.2 3)) 4 (σ.2 0)) 3 (σ.2 4)))) fl0_ok [(41, .iinc 1 1), (44, .goto (-42)), (2, .iload_n 1), (3, .aload_n 0), (4, .getfield 11)] (by decide +kernel) rfl rfl ?_
          refine g_alen (x := (2, 6)) rfl (Nat.le_of_ble_eq_true rfl) (by decide +kernel) ?_
          refine g_icmp_ge (off := 39) (tgt := 47) (by decide +kernel) (by decide) (fun zc8 => ?_) (fun zc8 => ?_)
          · exact absurd zc8 (by decide)
          · refine g_blk (pc' := 16) (loc' := [some (vR (3, 0, 0)), some (vI (5 : Int32)), some (vR (2, 0, (σ.2 4)))]) (st' := [vI (5 : Int32), vR (4, 0, 0)]) (σ' := (σ.1, (va_up (va_up (va_up (va_up (va_up (va_up (va_up (va_up σ.2 1 (σ.2 0)) 0 (σ.2 1)) 2 (σ.2 0)) 1 (σ.2 2)) 3 (σ.2 0)) 2 (σ.2 3)) 4 (σ.2 0)) 3 (σ.2 4)))) fl0_ok [(11, .aload_n 0), (12, .getfield 11), (15, .iload_n 1)] (by decide +kernel) rfl rfl ?_
            refine g_aald (n := 6) rfl (ibt_ok (by decide +kernel)) (by decide +kernel) ?_
            refine g_blk (pc' := 30) (loc' := [some (vR (3, 0, 0)), some (vI (5 : Int32)), some (vR (2, 0, (σ.2 5)))]) (st' := [vI (4 : Int32), vR (4, 0, 0), vI (5 : Int32), vR (4, 0, 0)]) (σ' := (σ.1, (va_up (va_up (va_up (va_up (va_up (va_up (va_up (va_up σ.2 1 (σ.2 0)) 0 (σ.2 1)) 2 (σ.2 0)) 1 (σ.2 2)) 3 (σ.2 0)) 2 (σ.2 3)) 4 (σ.2 0)) 3 (σ.2 4)))) fl0_ok [(17, .astore_n 2), (18, .aload_n 0), (19, .getfield 11), (22, .iload_n 1), (23, .aload_n 0), (24, .getfield 11), (27, .iload_n 1), (28, .iconst 1), (29, .isub)] (by decide +kernel) rfl rfl ?_
            refine g_aald (n := 6) rfl (ibt_ok (by decide +kernel)) (by decide +kernel) ?_
            refine g_aast (n := 6) (h := (σ.2 0)) (hPK _) rfl shp_only (ibt_ok (by decide +kernel)) (by decide +kernel) ?_
            refine g_blk (pc' := 40) (loc' := [some (vR (3, 0, 0)), some (vI (5 : Int32)), some (vR (2, 0, (σ.2 5)))]) (st' := [vR (2, 0, (σ.2 5)), vI (4 : Int32), vR (4, 0, 0)]) (σ' := (σ.1, (va_up (va_up (va_up (va_up (va_up (va_up (va_up (va_up (va_up σ.2 1 (σ.2 0)) 0 (σ.2 1)) 2 (σ.2 0)) 1 (σ.2 2)) 3 (σ.2 0)) 2 (σ.2 3)) 4 (σ.2 0)) 3 (σ.2 4)) 5 (σ.2 0)))) fl0_ok [(32, .aload_n 0), (33, .getfield 11), (36, .iload_n 1), (37, .iconst 1), (38, .isub), (39, .aload_n 2)] (by decide +kernel) rfl rfl ?_
            refine g_aast (n := 6) (h := (σ.2 5)) (hPK _) rfl shp_only (ibt_ok (by decide +kernel)) (by decide +kernel) ?_
            refine g_blk (pc' := 7) (loc' := [some (vR (3, 0, 0)), some (vI (6 : Int32)), some (vR (2, 0, (σ.2 5)))]) (st' := [vR (4, 0, 0), vI (6 : Int32)]) (σ' := (σ.1, (va_up (va_up (va_up (va_up (va_up (va_up (va_up (va_up (va_up (va_up σ.2 1 (σ.2 0)) 0 (σ.2 1)) 2 (σ.2 0)) 1 (σ.2 2)) 3 (σ.2 0)) 2 (σ.2 3)) 4 (σ.2 0)) 3 (σ.2 4)) 5 (σ.2 0)) 4 (σ.2 5)))) fl0_ok [(41, .iinc 1 1), (44, .goto (-42)), (2, .iload_n 1), (3, .aload_n 0), (4, .getfield 11)] (by decide +kernel) rfl rfl ?_
            refine g_alen (x := (2, 6)) rfl (Nat.le_of_ble_eq_true rfl) (by decide +kernel) ?_
            refine g_icmp_ge (off := 39) (tgt := 47) (by decide +kernel) (by decide) (fun zc8 => ?_) (fun zc8 => ?_)
            · refine g_blk (pc' := 57) (loc' := [some (vR (3, 0, 0)), some (vI (6 : Int32)), some (vR (2, 0, (σ.2 5)))]) (st' := []) (σ' := (upd2 (σ.1, (va_up (va_up (va_up (va_up (va_up (va_up (va_up (va_up (va_up (va_up σ.2 1 (σ.2 0)) 0 (σ.2 1)) 2 (σ.2 0)) 1 (σ.2 2)) 3 (σ.2 0)) 2 (σ.2 3)) 4 (σ.2 0)) 3 (σ.2 4)) 5 (σ.2 0)) 4 (σ.2 5))).1 (3, 0, 0) 1 (((σ.1, (va_up (va_up (va_up (va_up (va_up (va_up (va_up (va_up (va_up (va_up σ.2 1 (σ.2 0)) 0 (σ.2 1)) 2 (σ.2 0)) 1 (σ.2 2)) 3 (σ.2 0)) 2 (σ.2 3)) 4 (σ.2 0)) 3 (σ.2 4)) 5 (σ.2 0)) 4 (σ.2 5))).1 (3, 0, 0) 1) - (1 : Int32)), (σ.1, (va_up (va_up (va_up (va_up (va_up (va_up (va_up (va_up (va_up (va_up σ.2 1 (σ.2 0)) 0 (σ.2 1)) 2 (σ.2 0)) 1 (σ.2 2)) 3 (σ.2 0)) 2 (σ.2 3)) 4 (σ.2 0)) 3 (σ.2 4)) 5 (σ.2 0)) 4 (σ.2 5))).2)) fl0_ok [(47, .aload_n 0), (48, .dup), (49, .getfield 16), (52, .iconst 1), (53, .isub), (54, .putfield 16)] (by decide +kernel) rfl rfl ?_
              generalize hσ1 : ((upd2 (σ.1, (va_up (va_up (va_up (va_up (va_up (va_up (va_up (va_up (va_up (va_up σ.2 1 (σ.2 0)) 0 (σ.2 1)) 2 (σ.2 0)) 1 (σ.2 2)) 3 (σ.2 0)) 2 (σ.2 3)) 4 (σ.2 0)) 3 (σ.2 4)) 5 (σ.2 0)) 4 (σ.2 5))).1 (3, 0, 0) 1 (((σ.1, (va_up (va_up (va_up (va_up (va_up (va_up (va_up (va_up (va_up (va_up σ.2 1 (σ.2 0)) 0 (σ.2 1)) 2 (σ.2 0)) 1 (σ.2 2)) 3 (σ.2 0)) 2 (σ.2 3)) 4 (σ.2 0)) 3 (σ.2 4)) 5 (σ.2 0)) 4 (σ.2 5))).1 (3, 0, 0) 1) - (1 : Int32)), (σ.1, (va_up (va_up (va_up (va_up (va_up (va_up (va_up (va_up (va_up (va_up σ.2 1 (σ.2 0)) 0 (σ.2 1)) 2 (σ.2 0)) 1 (σ.2 2)) 3 (σ.2 0)) 2 (σ.2 3)) 4 (σ.2 0)) 3 (σ.2 4)) 5 (σ.2 0)) 4 (σ.2 5))).2) : Sg) = σ1
              refine g_vret (by decide +kernel) ⟨rfl, ?_, ?_, ?_⟩
              · rw [← hσ1]
                show upd2 σ.1 (3, 0, 0) 1 (σ.1 (3, 0, 0) 1 - 1) = _
                rw [hk]
                rfl
              · intro i hi
                rw [← hσ1]
                match i, hi with
                | 0, _ => rfl
                | 1, _ => rfl
                | 2, _ => rfl
                | 3, _ => rfl
                | 4, _ => rfl
                | i + 5, hi => exact absurd hi (by omega)
              · rw [← hσ1]
                rfl
            · exact absurd zc8 (by decide)
theorem drop_ok {σ σ' : Sg} (hi : HiOK σ) (h6 : hN σ = 6) (e1 : σ'.1 = upd2 σ.1 (3, 0, 0) 1 (nI 5)) (e2 : ∀ i, i < 5 → σ'.2 i = σ.2 (i + 1)) (e3 : σ'.2 5 = σ.2 0) :
    σ'.1 (3, 0, 0) 1 = nI 5 ∧ ((∀ i, i < 6 → 2 ≤ σ'.2 i) ∧ (∀ i j, i < 6 → j < 6 → σ'.2 i = σ'.2 j → i = j) ∧ ∀ i, i < 6 → HOK σ' (σ'.2 i)) ∧ (List.range 5).map (fun i => habs σ' (σ'.2 i)) = (hist σ).tail ∧ (∀ h, habs σ' h = habs σ h ∧ (HOK σ h → HOK σ' h)) ∧ FrHi σ σ' := by
  have ho : ∀ q, q ≠ (3, 0, 0) → σ'.1 q = σ.1 q := fun q hq => by rw [e1]; exact upd2_ne σ.1 (q := (3, 0, 0)) (p := q) 1 (nI 5) hq
  have hh : ∀ h, habs σ' h = habs σ h ∧ (HOK σ h → HOK σ' h) := fun h => habs_of (fun j => ho _ (by simp)) (fun j => ho _ (by simp)) (ho _ (by simp))
  obtain ⟨-, -, g1, g2, g3⟩ := hi
  have key : ∀ i, i < 6 → ∃ k, k < 6 ∧ σ'.2 i = σ.2 k ∧ (i < 5 → k = i + 1) ∧ (i = 5 → k = 0) := fun i h => by
    by_cases h5 : i < 5
    · exact ⟨i + 1, by omega, e2 i h5, fun _ => rfl, fun z => by omega⟩
    · have : i = 5 := by omega
      subst this
      exact ⟨0, by omega, e3, fun z => by omega, fun _ => rfl⟩
  refine ⟨by rw [e1, upd2_same]; simp [upd], ⟨fun i h => ?_, fun i j h h' he => ?_, fun i h => ?_⟩, ?_, hh, fun q hq => ho q (fun z => hq (Or.inl z))⟩
  · obtain ⟨k, k1, k2, -⟩ := key i h
    rw [k2]; exact g1 k k1
  · obtain ⟨k, k1, k2, k3, k4⟩ := key i h
    obtain ⟨m, m1, m2, m3, m4⟩ := key j h'
    have := g2 k m k1 m1 (by rw [← k2, ← m2]; exact he)
    omega
  · obtain ⟨k, k1, k2, -⟩ := key i h
    rw [k2]; exact (hh _).2 (g3 k k1)
  · rw [hist_eq h6]
    show _ = ((List.range 6).map (fun i => habs σ (σ.2 i))).tail
    rw [show List.range 6 = 0 :: (List.range 5).map (· + 1) from rfl, List.map_cons, List.tail_cons, List.map_map]
    apply List.map_congr_left
    intro i hi
    have := List.mem_range.mp hi
    rw [(hh _).1, e2 i this]
    rfl
set_option maxHeartbeats 2000000 in
theorem lp_X0_keep (l : Launch) {σ : Sg} {n : Nat} {post : Option AV → Sg → Prop} (hn : n < 6) (hk : σ.1 (3, 0, 0) 1 = nI n) (hi : ((∀ i, i < 6 → 2 ≤ σ.2 i) ∧ (∀ i j, i < 6 → j < 6 → σ.2 i = σ.2 j → i = j) ∧ ∀ i, i < 6 → HOK σ (σ.2 i))) (h0 : HOK σ 0) (hz : (habs σ 0).2 6 = 0 ∨ (habs σ 0).2 6 = 1) (kk : ∀ σ', HiOK σ' ∧ hist σ' = (List.range n).map (fun i => habs σ (σ.2 i)) ++ [habs σ 0] ∧ FrHi σ σ' → post none σ') : G l (Rm 3) RX0 cX0_keep 3 none post 13 [some (vR (3, 0, 0)), some (vR (2, 0, 0)), none] [] σ := by
  refine g_blk (pc' := 18) (loc' := [some (vR (3, 0, 0)), some (vR (2, 0, 0)), none]) (st' := [vI (σ.1 (3, 0, 0) 1), vR (3, 0, 0)]) (σ' := σ) fl0_ok [(13, .aload_n 0), (14, .aload_n 0), (15, .getfield 16)] (by decide +kernel) rfl rfl ?_
  rw [hk]
  refine g_callVq (3, 0, 0) [vI (nI n)] [] vl_RX0_23 mi_X0_stateAt (c_X0_stateAt l (i := n) hn) rfl rfl rfl rfl ⟨Nat.le_of_ble_eq_true rfl, Nat.le_of_ble_eq_true rfl⟩ rfl (Nat.le_of_ble_eq_true rfl) (by decide +kernel) ?_
  refine g_blk (pc' := 23) (loc' := [some (vR (3, 0, 0)), some (vR (2, 0, 0)), some (vR (2, 0, (σ.2 n)))]) (st' := [vR (2, 0, (σ.2 n))]) (σ' := σ) fl0_ok [(21, .astore_n 2), (22, .aload_n 2)] (by decide +kernel) rfl rfl ?_
  refine g_ifnull (off := 18) (by decide +kernel) ?_
  refine g_blk (pc' := 28) (loc' := [some (vR (3, 0, 0)), some (vR (2, 0, 0)), some (vR (2, 0, (σ.2 n)))]) (st' := [vR (2, 0, 0), vR (2, 0, (σ.2 n))]) (σ' := σ) fl0_ok [(26, .aload_n 2), (27, .aload_n 1)] (by decide +kernel) rfl rfl ?_
  refine g_callV (2, 0, (σ.2 n)) [vR (2, 0, 0)] [] vl_RX0_27 mi_X1_copyFrom (c_X1_copyFrom l (hi.2.2 n hn) h0 (fun z => absurd (hi.1 n hn) (by omega)) hz) rfl rfl rfl rfl ⟨Nat.le_of_ble_eq_true rfl, Nat.le_of_ble_eq_true rfl⟩ rfl (Nat.le_of_ble_eq_true rfl) (by decide +kernel) (fun o σ1 hPσ1 => ?_)
  obtain ⟨rfl, hWσ1⟩ := hPσ1
  refine g_blk (pc' := 41) (loc' := [some (vR (3, 0, 0)), some (vR (2, 0, 0)), some (vR (2, 0, (σ.2 n)))]) (st' := []) (σ' := (upd2 σ1.1 (3, 0, 0) 1 ((σ1.1 (3, 0, 0) 1) + (1 : Int32)), σ1.2)) fl0_ok [(31, .aload_n 0), (32, .dup), (33, .getfield 16), (36, .iconst 1), (37, .iadd), (38, .putfield 16)] (by decide +kernel) rfl rfl ?_
  generalize hσ2 : ((upd2 σ1.1 (3, 0, 0) 1 ((σ1.1 (3, 0, 0) 1) + (1 : Int32)), σ1.2) : Sg) = σ2
  have hkk : σ1.1 (3, 0, 0) = σ.1 (3, 0, 0) := hWσ1.2.2.1 (3, 0, 0) (by simp) (fun j hj => ⟨by simp, by simp⟩)
  rw [hkk, hk, nI_1] at hσ2
  exact g_vret (by decide +kernel) (kk _ (keep_end hn hi hWσ1 hσ2))
set_option maxHeartbeats 2000000 in
theorem c_X0_keep (l : Launch) {σ : Sg}  (hHi : HiOK σ) (h0 : HOK σ 0) (hz : (habs σ 0).2 6 = 0 ∨ (habs σ 0).2 6 = 1) : Con l 3 yX0_keep cX0_keep 3 none [vR (3, 0, 0), vR (2, 0, 0)] σ (fun o σ' => o = none ∧ HiOK σ' ∧ hist σ' = keepL (hist σ) (habs σ 0) ∧ FrHi σ σ') := by
  refine con_of pn_X0_keep (Nat.le_of_ble_eq_true rfl) (fun hPK hok => ?_)
  show G l (Rm 3) RX0 cX0_keep 3 none _ 0 [some (vR (3, 0, 0)), some (vR (2, 0, 0)), none] [] σ
  obtain ⟨h6, he, hp2, hinj, hH6⟩ := id hHi
  refine g_blk (pc' := 6) (loc' := [some (vR (3, 0, 0)), some (vR (2, 0, 0)), none]) (st' := [vI (6 : Int32), vI (σ.1 (3, 0, 0) 1)]) (σ' := σ) fl0_ok [(0, .aload_n 0), (1, .getfield 16), (4, .bipush 6)] (by decide +kernel) rfl rfl ?_
  refine g_icmp_lt (off := 7) (tgt := 13) (by decide +kernel) (by decide) (fun zc6 => ?_) (fun zc6 => ?_)
  · rw [he] at zc6
    have h6b : hN σ < 6 := (nI_ltI (by omega) (by decide)).mp (show nI (hN σ) < nI 6 from zc6)
    exact lp_X0_keep l h6b he ⟨hp2, hinj, hH6⟩ h0 hz (fun σ' hp => ⟨rfl, hp.1, by rw [hp.2.1, keepL, if_pos (by rw [hist, List.length_map, List.length_range]; exact h6b), hist], hp.2.2⟩)
  · rw [he] at zc6
    have h6b : hN σ = 6 := by
      have : ¬ hN σ < 6 := fun z => zc6 (show nI (hN σ) < nI 6 from (nI_ltI (by omega) (by decide)).mpr z)
      omega
    have hk6 : σ.1 (3, 0, 0) 1 = nI 6 := by rw [he, h6b]
    refine g_blk (pc' := 10) (loc' := [some (vR (3, 0, 0)), some (vR (2, 0, 0)), none]) (st' := [vR (3, 0, 0)]) (σ' := σ) fl0_ok [(9, .aload_n 0)] (by decide +kernel) rfl rfl ?_
    refine g_callV (3, 0, 0) [] [] vl_RX0_20 mi_X0_dropOldest (c_X0_dropOldest l hk6) rfl rfl rfl rfl ⟨Nat.le_of_ble_eq_true rfl, Nat.le_of_ble_eq_true rfl⟩ rfl (Nat.le_of_ble_eq_true rfl) (by decide +kernel) (fun o σa hPa => ?_)
    obtain ⟨rfl, ha1, ha2, ha3⟩ := hPa
    obtain ⟨d1, d2, d3, d4, d5⟩ := drop_ok hHi h6b ha1 ha2 ha3
    exact lp_X0_keep l (by decide) d1 d2 ((d4 0).2 h0) (by rw [(d4 0).1]; exact hz) (fun σ' hp => ⟨rfl, hp.1, by rw [hp.2.1, d3, (d4 0).1, keepL, if_neg (by rw [hist, List.length_map, List.length_range]; omega)], fun q hq => (hp.2.2 q hq).trans (d5 q hq)⟩)
set_option maxHeartbeats 2000000 in
theorem c_X0_restore (l : Launch) {σ : Sg} {n : Nat} (hHi : HiOK σ) (hN1 : hN σ = n + 1) (h0 : HOK σ 0) (hz : (habs σ (σ.2 n)).2 6 = 0 ∨ (habs σ (σ.2 n)).2 6 = 1) : Con l 3 yX0_restore cX0_restore 3 none [vR (3, 0, 0), vR (2, 0, 0)] σ (fun o σ' => o = none ∧ HiOK σ' ∧ hist σ' = (List.range n).map (fun i => habs σ (σ.2 i)) ∧ HOK σ' 0 ∧ habs σ' 0 = habs σ (σ.2 n) ∧ ∀ q, q ≠ (3, 0, 0) → q ≠ (2, 0, 0) → (∀ j, j < 5 → q ≠ (0, j, 0) ∧ q ≠ (1, j, 0)) → σ'.1 q = σ.1 q) := by
  refine con_of pn_X0_restore (Nat.le_of_ble_eq_true rfl) (fun hPK hok => ?_)
  show G l (Rm 3) RX0 cX0_restore 3 none _ 0 [some (vR (3, 0, 0)), some (vR (2, 0, 0)), none] [] σ
  obtain ⟨h6, he, hp2, hinj, hH6⟩ := id hHi
  have hn : n < 6 := by omega
  refine g_blk (pc' := 7) (loc' := [some (vR (3, 0, 0)), some (vR (2, 0, 0)), none]) (st' := [vI ((σ.1 (3, 0, 0) 1) - (1 : Int32)), vR (3, 0, 0)]) (σ' := σ) fl0_ok [(0, .aload_n 0), (1, .aload_n 0), (2, .getfield 16), (5, .iconst 1), (6, .isub)] (by decide +kernel) rfl rfl ?_
  rw [he, hN1, nI_pred]
  refine g_callVq (3, 0, 0) [vI (nI n)] [] vl_RX0_23 mi_X0_stateAt (c_X0_stateAt l (i := n) hn) rfl rfl rfl rfl ⟨Nat.le_of_ble_eq_true rfl, Nat.le_of_ble_eq_true rfl⟩ rfl (Nat.le_of_ble_eq_true rfl) (by decide +kernel) ?_
  refine g_blk (pc' := 12) (loc' := [some (vR (3, 0, 0)), some (vR (2, 0, 0)), some (vR (2, 0, (σ.2 n)))]) (st' := [vR (2, 0, (σ.2 n))]) (σ' := σ) fl0_ok [(10, .astore_n 2), (11, .aload_n 2)] (by decide +kernel) rfl rfl ?_
  refine g_ifnull (off := 18) (by decide +kernel) ?_
  refine g_blk (pc' := 17) (loc' := [some (vR (3, 0, 0)), some (vR (2, 0, 0)), some (vR (2, 0, (σ.2 n)))]) (st' := [vR (2, 0, (σ.2 n)), vR (2, 0, 0)]) (σ' := σ) fl0_ok [(15, .aload_n 1), (16, .aload_n 2)] (by decide +kernel) rfl rfl ?_
  refine g_callV (2, 0, 0) [vR (2, 0, (σ.2 n))] [] vl_RX0_27 mi_X1_copyFrom (c_X1_copyFrom l h0 (hH6 n hn) (fun z => absurd (hp2 n hn) (by omega)) hz) rfl rfl rfl rfl ⟨Nat.le_of_ble_eq_true rfl, Nat.le_of_ble_eq_true rfl⟩ rfl (Nat.le_of_ble_eq_true rfl) (by decide +kernel) (fun o σ1 hPσ1 => ?_)
  obtain ⟨rfl, hWσ1⟩ := hPσ1
  refine g_blk (pc' := 30) (loc' := [some (vR (3, 0, 0)), some (vR (2, 0, 0)), some (vR (2, 0, (σ.2 n)))]) (st' := []) (σ' := (upd2 σ1.1 (3, 0, 0) 1 ((σ1.1 (3, 0, 0) 1) - (1 : Int32)), σ1.2)) fl0_ok [(20, .aload_n 0), (21, .dup), (22, .getfield 16), (25, .iconst 1), (26, .isub), (27, .putfield 16)] (by decide +kernel) rfl rfl ?_
  generalize hσ2 : ((upd2 σ1.1 (3, 0, 0) 1 ((σ1.1 (3, 0, 0) 1) - (1 : Int32)), σ1.2) : Sg) = σ2
  have hkk : σ1.1 (3, 0, 0) = σ.1 (3, 0, 0) := hWσ1.2.2.1 (3, 0, 0) (by simp) (fun j hj => ⟨by simp, by simp⟩)
  rw [hkk, he, hN1, nI_pred] at hσ2
  have hp : σ1.2 = σ.2 := hWσ1.2.2.2
  have hne : ∀ i, i < 6 → σ.2 i ≠ 0 := fun i hi z => absurd (hp2 i hi) (by omega)
  obtain ⟨g1, g2, g3, g4, g5⟩ := hi_N (show n ≤ 6 by omega) hσ2 (by rw [hp]; exact ⟨hp2, hinj, fun i hi => (hw_other (hne i hi) hWσ1.2.2).2 (hH6 i hi)⟩)
  exact g_vret (by decide +kernel) ⟨rfl, g1, by
    rw [hist_eq g2]
    apply List.map_congr_left
    intro i him
    have hin := List.mem_range.mp him
    rw [(g4 _).1, g3, hp, (hw_other (hne i (by omega)) hWσ1.2.2).1], (g4 0).2 hWσ1.2.1, by rw [(g4 0).1, hWσ1.1], fun q hq hq0 hq1 => (g5 q hq).trans (hWσ1.2.2.1 q hq0 hq1)⟩
end
section
/-! PAD: its text as a value; contracts (laid by wip/whole/mk14.py) -/
abbrev PV : Type := Nat × (Nat → Int32)
def pN (σ : Sg) : Nat := (σ.1 (5, 0, 0) 1).toNatClampNeg
def pv (σ : Sg) : PV := (pN σ, fun i => if i < pN σ then σ.1 (6, 0, 0) i else 0)
def PadOK (σ : Sg) : Prop := pN σ ≤ 60 ∧ σ.1 (5, 0, 0) 1 = nI (pN σ)
def eonS (P : PV) (s : Nat) : Nat := if ¬ isInS (P.2 s) 48 57 = 0 then (if P.2 s = 48 then s + 1 else if isInS (P.2 (s + 1)) 48 57 = 0 then s + 1 else s + 2) else s
def numF (P : PV) : Nat → Nat → Int32 → Int32
  | 0, _, a => a
  | k + 1, i, a => numF P k (i + 1) (10 * a + P.2 i - 48)
def numS (P : PV) (s e : Nat) : Int32 := numF P (e - s) s 0
def shr8 (x : Int64) : Int64 := (x.toUInt64 >>> ((8 : Int32).toInt64.toUInt64 &&& Int64.toUInt64 63)).toInt64
def cntC : Nat → Int64 → Int32 → Int32
  | 0, _, m => m
  | k + 1, x, m => if lg_cmp x 0 = 0 then m else if ¬ isInS (x &&& 255).toInt32 33 126 = 0 then cntC k (shr8 x) (m + 1) else 0
theorem eon_le (P : PV) (s : Nat) : s ≤ eonS P s ∧ eonS P s ≤ s + 2 := by
  unfold eonS
  split
  · split
    · omega
    · split <;> omega
  · omega
theorem nI_2 (a : Nat) : nI a + 2 = nI (a + 2) := nI_add a 2
set_option maxHeartbeats 2000000 in
theorem c_X2_characterAt (l : Launch) {σ : Sg} {i : Nat} (hP : PadOK σ) (hi : i < 2 ^ 30) : Con l 0 yX2_characterAt cX2_characterAt 2 (some .int) [vR (5, 0, 0), vI (nI i)] σ (pureP ((pv σ).2 i) σ) := by
  refine con_of pn_X2_characterAt (Nat.le_of_ble_eq_true rfl) (fun hPK hok => ?_)
  show G l (Rm 0) RX2 cX2_characterAt 2 (some .int) _ 0 [some (vR (5, 0, 0)), some (vI (nI i))] [] σ
  refine g_blk (pc' := 1) (loc' := [some (vR (5, 0, 0)), some (vI (nI i))]) (st' := [vI (nI i)]) (σ' := σ) fl2_ok [(0, .iload_n 1)] (by decide +kernel) rfl rfl ?_
  refine g_if_lt (off := 29) (tgt := 30) (by decide +kernel) (by decide) (fun zc1 => ?_) (fun zc1 => ?_)
  · exact absurd zc1 (nI_pos (by omega))
  · refine g_blk (pc' := 9) (loc' := [some (vR (5, 0, 0)), some (vI (nI i))]) (st' := [vI (σ.1 (5, 0, 0) 1), vI (nI i)]) (σ' := σ) fl2_ok [(4, .iload_n 1), (5, .aload_n 0), (6, .getfield 30)] (by decide +kernel) rfl rfl ?_
    refine g_icmp_ge (off := 21) (tgt := 30) (by decide +kernel) (by decide) (fun zc9 => ?_) (fun zc9 => ?_)
    · have hm := hP.1
      rw [hP.2, nI_leI (by omega) (by omega)] at zc9
      refine g_blk (pc' := 31) (loc' := [some (vR (5, 0, 0)), some (vI (nI i))]) (st' := [vI (0 : Int32)]) (σ' := σ) fl2_ok [(30, .iconst 0)] (by decide +kernel) rfl rfl ?_
      exact g_iret (by decide +kernel) ⟨by show _ = some (vI (if i < pN σ then _ else _)); rw [if_neg (by omega)], rfl⟩
    · have hm := hP.1
      rw [hP.2, nI_leI (by omega) (by omega)] at zc9
      refine g_blk (pc' := 17) (loc' := [some (vR (5, 0, 0)), some (vI (nI i))]) (st' := [vR (6, 0, 0), vI (nI i)]) (σ' := σ) fl2_ok [(12, .iload_n 1), (13, .aload_n 0), (14, .getfield 9)] (by decide +kernel) rfl rfl ?_
      refine g_alen (x := (1, 60)) rfl (Nat.le_of_ble_eq_true rfl) (by decide +kernel) ?_
      refine g_icmp_ge (off := 12) (tgt := 30) (by decide +kernel) (by decide) (fun zc18 => ?_) (fun zc18 => ?_)
      · exact absurd zc18 (nI_ge (b := 60) (by omega) (by decide))
      · refine g_blk (pc' := 26) (loc' := [some (vR (5, 0, 0)), some (vI (nI i))]) (st' := [vI (nI i), vR (6, 0, 0)]) (σ' := σ) fl2_ok [(21, .aload_n 0), (22, .getfield 9), (25, .iload_n 1)] (by decide +kernel) rfl rfl ?_
        refine g_cald (n := 60) rfl (vp_in_nI (by omega) (by decide)) (by decide +kernel) ?_
        rw [nI_clamp (by omega)]
        refine g_blk (pc' := 31) (loc' := [some (vR (5, 0, 0)), some (vI (nI i))]) (st' := [vI (σ.1 (6, 0, 0) i)]) (σ' := σ) fl2_ok [(27, .goto 4)] (by decide +kernel) rfl rfl ?_
        exact g_iret (by decide +kernel) ⟨by show _ = some (vI (if i < pN σ then _ else _)); rw [if_pos (by omega)], rfl⟩
set_option maxHeartbeats 2000000 in
theorem c_X2_isDigitAt (l : Launch) {σ : Sg} {i : Nat} (hP : PadOK σ) (hi : i < 2 ^ 30) : Con l 1 yX2_isDigitAt cX2_isDigitAt 2 (some .boolean) [vR (5, 0, 0), vI (nI i)] σ (pureP (isInS ((pv σ).2 i) 48 57) σ) := by
  refine con_of pn_X2_isDigitAt (Nat.le_of_ble_eq_true rfl) (fun hPK hok => ?_)
  show G l (Rm 1) RX2 cX2_isDigitAt 2 (some .boolean) _ 0 [some (vR (5, 0, 0)), some (vI (nI i))] [] σ
  refine g_blk (pc' := 2) (loc' := [some (vR (5, 0, 0)), some (vI (nI i))]) (st' := [vI (nI i), vR (5, 0, 0)]) (σ' := σ) fl2_ok [(0, .aload_n 0), (1, .iload_n 1)] (by decide +kernel) rfl rfl ?_
  refine g_callVp (5, 0, 0) [vI (nI i)] [] vl_RX2_34 mi_X2_characterAt (c_X2_characterAt l (i := i) hP (by omega)) rfl rfl rfl rfl ⟨Nat.le_of_ble_eq_true rfl, Nat.le_of_ble_eq_true rfl⟩ rfl (Nat.le_of_ble_eq_true rfl) (by decide +kernel) ?_
  refine g_blk (pc' := 9) (loc' := [some (vR (5, 0, 0)), some (vI (nI i))]) (st' := [vI (57 : Int32), vI (48 : Int32), vI ((pv σ).2 i)]) (σ' := σ) fl2_ok [(5, .bipush 48), (7, .bipush 57)] (by decide +kernel) rfl rfl ?_
  refine g_callNp (idx := 26) [vI ((pv σ).2 i), vI (48 : Int32), vI (57 : Int32)] [] (by decide +kernel) nl_X4_isIn mi_X4_isIn (c_X4_isIn l ((pv σ).2 i) (48 : Int32) (57 : Int32)) rfl ⟨Nat.le_of_ble_eq_true rfl, Nat.le_of_ble_eq_true rfl⟩ rfl (Nat.le_of_ble_eq_true rfl) (by decide +kernel) ?_
  exact g_zret (by decide +kernel) (isInS_bit _ _ _) ⟨rfl, rfl⟩
set_option maxHeartbeats 2000000 in
theorem c_X2_endOfNumber (l : Launch) {σ : Sg} {i : Nat} (hP : PadOK σ) (hi : i < 2 ^ 29) : Con l 2 yX2_endOfNumber cX2_endOfNumber 3 (some .int) [vR (5, 0, 0), vI (nI i)] σ (pureP (nI (eonS (pv σ) i)) σ) := by
  refine con_of pn_X2_endOfNumber (Nat.le_of_ble_eq_true rfl) (fun hPK hok => ?_)
  show G l (Rm 2) RX2 cX2_endOfNumber 3 (some .int) _ 0 [some (vR (5, 0, 0)), some (vI (nI i)), none] [] σ
  refine g_blk (pc' := 2) (loc' := [some (vR (5, 0, 0)), some (vI (nI i)), none]) (st' := [vI (nI i), vR (5, 0, 0)]) (σ' := σ) fl2_ok [(0, .aload_n 0), (1, .iload_n 1)] (by decide +kernel) rfl rfl ?_
  refine g_callVp (5, 0, 0) [vI (nI i)] [] vl_RX2_59 mi_X2_isDigitAt (c_X2_isDigitAt l (i := i) hP (by omega)) rfl rfl rfl rfl ⟨Nat.le_of_ble_eq_true rfl, Nat.le_of_ble_eq_true rfl⟩ rfl (Nat.le_of_ble_eq_true rfl) (by decide +kernel) ?_
  refine g_if_ne (off := 5) (tgt := 10) (by decide +kernel) (by decide) (fun zc5 => ?_) (fun zc5 => ?_)
  · refine g_blk (pc' := 12) (loc' := [some (vR (5, 0, 0)), some (vI (nI i)), none]) (st' := [vI (nI i), vR (5, 0, 0)]) (σ' := σ) fl2_ok [(10, .aload_n 0), (11, .iload_n 1)] (by decide +kernel) rfl rfl ?_
    refine g_callVp (5, 0, 0) [vI (nI i)] [] vl_RX2_34 mi_X2_characterAt (c_X2_characterAt l (i := i) hP (by omega)) rfl rfl rfl rfl ⟨Nat.le_of_ble_eq_true rfl, Nat.le_of_ble_eq_true rfl⟩ rfl (Nat.le_of_ble_eq_true rfl) (by decide +kernel) ?_
    refine g_blk (pc' := 17) (loc' := [some (vR (5, 0, 0)), some (vI (nI i)), none]) (st' := [vI (48 : Int32), vI ((pv σ).2 i)]) (σ' := σ) fl2_ok [(15, .bipush 48)] (by decide +kernel) rfl rfl ?_
    refine g_icmp_eq (off := 7) (tgt := 24) (by decide +kernel) (by decide) (fun zc17 => ?_) (fun zc17 => ?_)
    · refine g_blk (pc' := 27) (loc' := [some (vR (5, 0, 0)), some (vI (nI i)), some (vI (0 : Int32))]) (st' := [vI (0 : Int32)]) (σ' := σ) fl2_ok [(24, .iconst 0), (25, .istore_n 2), (26, .iload_n 2)] (by decide +kernel) rfl rfl ?_
      refine g_if_eq (off := 19) (tgt := 46) (by decide +kernel) (by decide) (fun zc27 => ?_) (fun zc27 => ?_)
      · refine g_blk (pc' := 49) (loc' := [some (vR (5, 0, 0)), some (vI (nI i)), some (vI (0 : Int32))]) (st' := [vI ((nI i) + (1 : Int32))]) (σ' := σ) fl2_ok [(46, .iload_n 1), (47, .iconst 1), (48, .iadd)] (by decide +kernel) rfl rfl ?_
        exact g_iret (by decide +kernel) ⟨by rw [eonS, if_pos zc5, if_pos zc17, nI_1], rfl⟩
      · exact absurd zc27 (by decide)
    · refine g_blk (pc' := 27) (loc' := [some (vR (5, 0, 0)), some (vI (nI i)), some (vI (1 : Int32))]) (st' := [vI (1 : Int32)]) (σ' := σ) fl2_ok [(20, .iconst 1), (21, .goto 4), (25, .istore_n 2), (26, .iload_n 2)] (by decide +kernel) rfl rfl ?_
      refine g_if_eq (off := 19) (tgt := 46) (by decide +kernel) (by decide) (fun zc27 => ?_) (fun zc27 => ?_)
      · exact absurd zc27 (by decide)
      · refine g_blk (pc' := 34) (loc' := [some (vR (5, 0, 0)), some (vI (nI i)), some (vI (1 : Int32))]) (st' := [vI ((nI i) + (1 : Int32)), vR (5, 0, 0)]) (σ' := σ) fl2_ok [(30, .aload_n 0), (31, .iload_n 1), (32, .iconst 1), (33, .iadd)] (by decide +kernel) rfl rfl ?_
        rw [nI_1]
        refine g_callVp (5, 0, 0) [vI (nI (i + 1))] [] vl_RX2_59 mi_X2_isDigitAt (c_X2_isDigitAt l (i := (i + 1)) hP (by omega)) rfl rfl rfl rfl ⟨Nat.le_of_ble_eq_true rfl, Nat.le_of_ble_eq_true rfl⟩ rfl (Nat.le_of_ble_eq_true rfl) (by decide +kernel) ?_
        refine g_if_eq (off := 9) (tgt := 46) (by decide +kernel) (by decide) (fun zc37 => ?_) (fun zc37 => ?_)
        · refine g_blk (pc' := 49) (loc' := [some (vR (5, 0, 0)), some (vI (nI i)), some (vI (1 : Int32))]) (st' := [vI ((nI i) + (1 : Int32))]) (σ' := σ) fl2_ok [(46, .iload_n 1), (47, .iconst 1), (48, .iadd)] (by decide +kernel) rfl rfl ?_
          exact g_iret (by decide +kernel) ⟨by rw [eonS, if_pos zc5, if_neg zc17, if_pos zc37, nI_1], rfl⟩
        · refine g_blk (pc' := 49) (loc' := [some (vR (5, 0, 0)), some (vI (nI i)), some (vI (1 : Int32))]) (st' := [vI ((nI i) + (2 : Int32))]) (σ' := σ) fl2_ok [(40, .iload_n 1), (41, .iconst 2), (42, .iadd), (43, .goto 6)] (by decide +kernel) rfl rfl ?_
          exact g_iret (by decide +kernel) ⟨by rw [eonS, if_pos zc5, if_neg zc17, if_neg zc37, nI_2], rfl⟩
  · refine g_blk (pc' := 9) (loc' := [some (vR (5, 0, 0)), some (vI (nI i)), none]) (st' := [vI (nI i)]) (σ' := σ) fl2_ok [(8, .iload_n 1)] (by decide +kernel) rfl rfl ?_
    exact g_iret (by decide +kernel) ⟨by rw [eonS, if_neg (not_not_intro zc5)], rfl⟩
set_option maxHeartbeats 2000000 in
theorem lp_X2_numberIn (l : Launch) {σ : Sg} {e : Nat} (hP : PadOK σ) (he : e < 2 ^ 30) : ∀ (k i : Nat) (a : Int32), i + k = e → G l (Rm 1) RX2 cX2_numberIn 5 (some .int) (pureP (numF (pv σ) k i a) σ) 5 [some (vR (5, 0, 0)), none, some (vI (nI e)), some (vI a), some (vI (nI i))] [] σ := by
  intro k
  induction k with
  | zero =>
    intro i a hk
    refine g_blk (pc' := 8) (loc' := [some (vR (5, 0, 0)), none, some (vI (nI e)), some (vI a), some (vI (nI i))]) (st' := [vI (nI e), vI (nI i)]) (σ' := σ) fl2_ok [(5, .iload 4), (7, .iload_n 2)] (by decide +kernel) rfl rfl ?_
    refine g_icmp_ge (off := 24) (tgt := 32) (by decide +kernel) (by decide) (fun zc8 => ?_) (fun zc8 => ?_)
    · rw [nI_leI (by omega) (by omega)] at zc8
      refine g_blk (pc' := 33) (loc' := [some (vR (5, 0, 0)), none, some (vI (nI e)), some (vI a), some (vI (nI i))]) (st' := [vI a]) (σ' := σ) fl2_ok [(32, .iload_n 3)] (by decide +kernel) rfl rfl ?_
      exact g_iret (by decide +kernel) ⟨by rw [numF], rfl⟩
    · rw [nI_leI (by omega) (by omega)] at zc8
      exact absurd (by omega) zc8
  | succ k ih =>
    intro i a hk
    refine g_blk (pc' := 8) (loc' := [some (vR (5, 0, 0)), none, some (vI (nI e)), some (vI a), some (vI (nI i))]) (st' := [vI (nI e), vI (nI i)]) (σ' := σ) fl2_ok [(5, .iload 4), (7, .iload_n 2)] (by decide +kernel) rfl rfl ?_
    refine g_icmp_ge (off := 24) (tgt := 32) (by decide +kernel) (by decide) (fun zc8 => ?_) (fun zc8 => ?_)
    · rw [nI_leI (by omega) (by omega)] at zc8
      exact absurd zc8 (by omega)
    · rw [nI_leI (by omega) (by omega)] at zc8
      refine g_blk (pc' := 18) (loc' := [some (vR (5, 0, 0)), none, some (vI (nI e)), some (vI a), some (vI (nI i))]) (st' := [vI (nI i), vR (5, 0, 0), vI ((10 : Int32) * a)]) (σ' := σ) fl2_ok [(11, .bipush 10), (13, .iload_n 3), (14, .imul), (15, .aload_n 0), (16, .iload 4)] (by decide +kernel) rfl rfl ?_
      refine g_callVp (5, 0, 0) [vI (nI i)] [vI ((10 : Int32) * a)] vl_RX2_34 mi_X2_characterAt (c_X2_characterAt l (i := i) hP (by omega)) rfl rfl rfl rfl ⟨Nat.le_of_ble_eq_true rfl, Nat.le_of_ble_eq_true rfl⟩ rfl (Nat.le_of_ble_eq_true rfl) (by decide +kernel) ?_
      refine g_blk (pc' := 5) (loc' := [some (vR (5, 0, 0)), none, some (vI (nI e)), some (vI ((((10 : Int32) * a) + ((pv σ).2 i)) - (48 : Int32))), some (vI ((nI i) + (1 : Int32)))]) (st' := []) (σ' := σ) fl2_ok [(21, .iadd), (22, .bipush 48), (24, .isub), (25, .istore_n 3), (26, .iinc 4 1), (29, .goto (-24))] (by decide +kernel) rfl rfl ?_
      rw [numF, nI_1]
      exact ih (i + 1) _ (by omega)
set_option maxHeartbeats 2000000 in
theorem c_X2_numberIn (l : Launch) {σ : Sg} {i j : Nat} (hP : PadOK σ) (hij : i ≤ j) (hj : j < 2 ^ 30) : Con l 1 yX2_numberIn cX2_numberIn 5 (some .int) [vR (5, 0, 0), vI (nI i), vI (nI j)] σ (pureP (numS (pv σ) i j) σ) := by
  refine con_of pn_X2_numberIn (Nat.le_of_ble_eq_true rfl) (fun hPK hok => ?_)
  show G l (Rm 1) RX2 cX2_numberIn 5 (some .int) _ 0 [some (vR (5, 0, 0)), some (vI (nI i)), some (vI (nI j)), none, none] [] σ
  refine g_blk (pc' := 5) (loc' := [some (vR (5, 0, 0)), some (vI (nI i)), some (vI (nI j)), some (vI (0 : Int32)), some (vI (nI i))]) (st' := []) (σ' := σ) fl2_ok [(0, .iconst 0), (1, .istore_n 3), (2, .iload_n 1), (3, .istore 4)] (by decide +kernel) rfl rfl ?_
  refine g_sub (loc' := [some (vR (5, 0, 0)), none, some (vI (nI j)), some (vI 0), some (vI (nI i))]) ⟨Or.inr rfl, Or.inl rfl, Or.inr rfl, Or.inr rfl, Or.inr rfl, trivial⟩ ?_
  exact lp_X2_numberIn l hP hj (j - i) i 0 (by omega)
set_option maxHeartbeats 2000000 in
theorem lp_X2_countCharacters (l : Launch) {σ : Sg} : ∀ (k i : Nat) (x : Int64) (m : Int32), i + k = 8 → G l (Rm 1) RX2 cX2_countCharacters 7 (some .int) (pureP (cntC k x m) σ) 8 [none, none, some (vL x), none, some (vI m), some (vI (nI i)), none] [] σ := by
  intro k
  induction k with
  | zero =>
    intro i x m hk
    refine g_blk (pc' := 12) (loc' := [none, none, some (vL x), none, some (vI m), some (vI (nI i)), none]) (st' := [vI (8 : Int32), vI (nI i)]) (σ' := σ) fl2_ok [(8, .iload 5), (10, .bipush 8)] (by decide +kernel) rfl rfl ?_
    refine g_icmp_ge (off := 45) (tgt := 57) (by decide +kernel) (by decide) (fun zc12 => ?_) (fun zc12 => ?_)
    · have h8b : (8 : Int32) = nI 8 := rfl
      rw [h8b, nI_leI (by decide) (by omega)] at zc12
      refine g_blk (pc' := 59) (loc' := [none, none, some (vL x), none, some (vI m), some (vI (nI i)), none]) (st' := [vI m]) (σ' := σ) fl2_ok [(57, .iload 4)] (by decide +kernel) rfl rfl ?_
      exact g_iret (by decide +kernel) ⟨by rw [cntC], rfl⟩
    · have h8b : (8 : Int32) = nI 8 := rfl
      rw [h8b, nI_leI (by decide) (by omega)] at zc12
      exact absurd (by omega) zc12
  | succ k ih =>
    intro i x m hk
    refine g_blk (pc' := 12) (loc' := [none, none, some (vL x), none, some (vI m), some (vI (nI i)), none]) (st' := [vI (8 : Int32), vI (nI i)]) (σ' := σ) fl2_ok [(8, .iload 5), (10, .bipush 8)] (by decide +kernel) rfl rfl ?_
    refine g_icmp_ge (off := 45) (tgt := 57) (by decide +kernel) (by decide) (fun zc12 => ?_) (fun zc12 => ?_)
    · have h8b : (8 : Int32) = nI 8 := rfl
      rw [h8b, nI_leI (by decide) (by omega)] at zc12
      exact absurd zc12 (by omega)
    · have h8b : (8 : Int32) = nI 8 := rfl
      rw [h8b, nI_leI (by decide) (by omega)] at zc12
      refine g_blk (pc' := 18) (loc' := [none, none, some (vL x), none, some (vI m), some (vI (nI i)), none]) (st' := [vI (lg_cmp x (0 : Int64))]) (σ' := σ) fl2_ok [(15, .lload_n 2), (16, .lconst 0), (17, .lcmp)] (by decide +kernel) rfl rfl ?_
      refine g_if_eq (off := 39) (tgt := 57) (by decide +kernel) (by decide) (fun zc18 => ?_) (fun zc18 => ?_)
      · refine g_blk (pc' := 59) (loc' := [none, none, some (vL x), none, some (vI m), some (vI (nI i)), none]) (st' := [vI m]) (σ' := σ) fl2_ok [(57, .iload 4)] (by decide +kernel) rfl rfl ?_
        exact g_iret (by decide +kernel) ⟨by rw [cntC, if_pos zc18], rfl⟩
      · refine g_blk (pc' := 22) (loc' := [none, none, some (vL x), none, some (vI m), some (vI (nI i)), none]) (st' := [vL x]) (σ' := σ) fl2_ok [(21, .lload_n 2)] (by decide +kernel) rfl rfl ?_
        refine g_ldc2 (v := 255) kl_RX2 (by decide +kernel) ?_
        refine g_blk (pc' := 35) (loc' := [none, none, some (vL x), none, some (vI m), some (vI (nI i)), some (vI ((x &&& (255 : Int64)).toInt32))]) (st' := [vI (126 : Int32), vI (33 : Int32), vI ((x &&& (255 : Int64)).toInt32)]) (σ' := σ) fl2_ok [(25, .land), (26, .l2i), (27, .istore 6), (29, .iload 6), (31, .bipush 33), (33, .bipush 126)] (by decide +kernel) rfl rfl ?_
        refine g_callNp (idx := 26) [vI ((x &&& (255 : Int64)).toInt32), vI (33 : Int32), vI (126 : Int32)] [] (by decide +kernel) nl_X4_isIn mi_X4_isIn (c_X4_isIn l ((x &&& (255 : Int64)).toInt32) (33 : Int32) (126 : Int32)) rfl ⟨Nat.le_of_ble_eq_true rfl, Nat.le_of_ble_eq_true rfl⟩ rfl (Nat.le_of_ble_eq_true rfl) (by decide +kernel) ?_
        refine g_if_ne (off := 5) (tgt := 43) (by decide +kernel) (by decide) (fun zc38 => ?_) (fun zc38 => ?_)
        · refine g_blk (pc' := 8) (loc' := [none, none, some (vL ((x.toUInt64 >>> ((8 : Int32).toInt64.toUInt64 &&& Int64.toUInt64 63)).toInt64)), none, some (vI (m + (1 : Int32))), some (vI ((nI i) + (1 : Int32))), some (vI ((x &&& (255 : Int64)).toInt32))]) (st' := []) (σ' := σ) fl2_ok [(43, .iinc 4 1), (46, .lload_n 2), (47, .bipush 8), (49, .lushr), (50, .lstore_n 2), (51, .iinc 5 1), (54, .goto (-46))] (by decide +kernel) rfl rfl ?_
          rw [cntC, if_neg zc18, if_pos zc38, nI_1]
          exact g_sub (loc' := [none, none, some (vL (shr8 x)), none, some (vI (m + 1)), some (vI (nI (i + 1))), none]) ⟨Or.inl rfl, Or.inl rfl, Or.inr rfl, Or.inr rfl, Or.inr rfl, Or.inr rfl, Or.inl rfl, trivial⟩ (ih (i + 1) (shr8 x) (m + 1) (by omega))
        · refine g_blk (pc' := 42) (loc' := [none, none, some (vL x), none, some (vI m), some (vI (nI i)), some (vI ((x &&& (255 : Int64)).toInt32))]) (st' := [vI (0 : Int32)]) (σ' := σ) fl2_ok [(41, .iconst 0)] (by decide +kernel) rfl rfl ?_
          exact g_iret (by decide +kernel) ⟨by rw [cntC, if_neg zc18, if_neg (not_not_intro zc38)], rfl⟩
set_option maxHeartbeats 2000000 in
theorem c_X2_countCharacters (l : Launch) {σ : Sg} {x : Int64}  : Con l 1 yX2_countCharacters cX2_countCharacters 7 (some .int) [vL x] σ (pureP (cntC 8 x 0) σ) := by
  refine con_of pn_X2_countCharacters (Nat.le_of_ble_eq_true rfl) (fun hPK hok => ?_)
  show G l (Rm 1) RX2 cX2_countCharacters 7 (some .int) _ 0 [some (vL x), none, none, none, none, none, none] [] σ
  refine g_blk (pc' := 8) (loc' := [some (vL x), none, some (vL x), none, some (vI (0 : Int32)), some (vI (0 : Int32)), none]) (st' := []) (σ' := σ) fl2_ok [(0, .lload_n 0), (1, .lstore_n 2), (2, .iconst 0), (3, .istore 4), (5, .iconst 0), (6, .istore 5)] (by decide +kernel) rfl rfl ?_
  refine g_sub (loc' := [none, none, some (vL x), none, some (vI 0), some (vI (nI 0)), none]) ⟨Or.inl rfl, Or.inr rfl, Or.inr rfl, Or.inr rfl, Or.inr rfl, Or.inr rfl, Or.inr rfl, trivial⟩ ?_
  exact lp_X2_countCharacters l 8 0 x 0 (by omega)
def FrP (σ σ' : Sg) : Prop := (∀ q, q ≠ (5, 0, 0) → q ≠ (6, 0, 0) → σ'.1 q = σ.1 q) ∧ σ'.2 = σ.2
theorem FrP.tr {σ σ1 σ2 : Sg} (a : FrP σ σ1) (b : FrP σ1 σ2) : FrP σ σ2 := ⟨fun q h1 h2 => (b.1 q h1 h2).trans (a.1 q h1 h2), b.2.trans a.2⟩
def chC (x : Int64) (k : Nat) : Int32 := vp_nar .char ((((x.toUInt64 >>> (((8 : Int32) * nI k).toInt64.toUInt64 &&& Int64.toUInt64 63)).toInt64 &&& 255).toInt32.toUInt32 % 65536).toInt32)
def appF (x : Int64) : Nat → PV → PV
  | 0, P => P
  | k + 1, P => appF x k (P.1 + 1, fun i => if i = P.1 then chC x k else P.2 i)
theorem pad_N {σ σ' : Sg} {n : Nat} (hn : n ≤ 60) (e : (upd2 σ.1 (5, 0, 0) 1 (nI n), σ.2) = σ') : PadOK σ' ∧ pN σ' = n ∧ (pv σ').2 = (fun i => if i < n then σ.1 (6, 0, 0) i else 0) ∧ FrP σ σ' := by
  subst e
  have e0 : (upd2 σ.1 (5, 0, 0) 1 (nI n), σ.2).1 (5, 0, 0) 1 = nI n := by
    show upd2 σ.1 (5, 0, 0) 1 (nI n) (5, 0, 0) 1 = nI n
    rw [upd2_same]
    simp [upd]
  have e1 : pN (upd2 σ.1 (5, 0, 0) 1 (nI n), σ.2) = n := by rw [pN, e0, nI_clamp (by omega)]
  refine ⟨⟨by rw [e1]; exact hn, by rw [e1]; exact e0⟩, e1, ?_, ⟨fun q h1 h2 => upd2_ne σ.1 (q := (5, 0, 0)) (p := q) 1 (nI n) h1, rfl⟩⟩
  funext i
  show (if i < pN (upd2 σ.1 (5, 0, 0) 1 (nI n), σ.2) then upd2 σ.1 (5, 0, 0) 1 (nI n) (6, 0, 0) i else 0) = _
  rw [e1, upd2_ne σ.1 (q := (5, 0, 0)) (p := (6, 0, 0)) 1 (nI n) (by simp)]
theorem pad_at6 {σ σa : Sg} {k : Nat} {v : Int32} (e : (upd2 σ.1 (6, 0, 0) k v, σ.2) = σa) : σa.1 (5, 0, 0) = σ.1 (5, 0, 0) := by
  rw [← e]
  exact upd2_ne σ.1 (q := (6, 0, 0)) (p := (5, 0, 0)) k v (by simp)
theorem pad_app {σ σ1 σ2 : Sg} {v : Int32} (hP : PadOK σ) (hn : pN σ < 60) (e1 : (upd2 σ.1 (6, 0, 0) (pN σ) v, σ.2) = σ1) (e2 : (upd2 σ1.1 (5, 0, 0) 1 (nI (pN σ + 1)), σ1.2) = σ2) : PadOK σ2 ∧ pv σ2 = ((pv σ).1 + 1, fun i => if i = (pv σ).1 then v else (pv σ).2 i) ∧ FrP σ σ2 := by
  obtain ⟨g1, g2, g3, g4⟩ := pad_N (show pN σ + 1 ≤ 60 by omega) e2
  have h6 : σ1.1 (6, 0, 0) = upd (σ.1 (6, 0, 0)) (pN σ) v := by rw [← e1]; exact upd2_same σ.1 (6, 0, 0) (pN σ) v
  refine ⟨g1, Prod.ext g2 ?_, ⟨fun q h1 h2 => (g4.1 q h1 h2).trans (by rw [← e1]; exact upd2_ne σ.1 (q := (6, 0, 0)) (p := q) (pN σ) v h2), g4.2.trans (by rw [← e1])⟩⟩
  rw [g3, h6]
  funext i
  show (if i < pN σ + 1 then upd (σ.1 (6, 0, 0)) (pN σ) v i else 0) = if i = pN σ then v else if i < pN σ then σ.1 (6, 0, 0) i else 0
  unfold upd
  by_cases h : i = pN σ
  · rw [if_pos (by omega), if_pos h, if_pos h]
  · rw [if_neg h, if_neg h]
    by_cases h2 : i < pN σ
    · rw [if_pos (by omega), if_pos h2]
    · rw [if_neg (by omega), if_neg h2]
set_option maxHeartbeats 2000000 in
theorem lp_X2_append (l : Launch) {σ0 : Sg} {x : Int64} {Pf : PV} : ∀ (k : Nat) (σ : Sg), PadOK σ → pN σ + k ≤ 60 → appF x k (pv σ) = Pf → FrP σ0 σ → G l (Rm 0) RX2 cX2_append 5 none (fun o σ' => o = none ∧ PadOK σ' ∧ pv σ' = Pf ∧ FrP σ0 σ') 5 [some (vR (5, 0, 0)), some (vL x), none, none, some (vI (nI k - 1))] [] σ := by
  intro k
  induction k with
  | zero =>
    intro σ hP hk hd hF
    refine g_blk (pc' := 7) (loc' := [some (vR (5, 0, 0)), some (vL x), none, none, some (vI (nI 0 - 1))]) (st' := [vI (nI 0 - 1)]) (σ' := σ) fl2_ok [(5, .iload 4)] (by decide +kernel) rfl rfl ?_
    refine g_if_lt (off := 60) (tgt := 67) (by decide +kernel) (by decide) (fun zc7 => ?_) (fun zc7 => ?_)
    · exact g_vret (by decide +kernel) ⟨rfl, hP, hd, hF⟩
    · exact absurd (by decide) zc7
  | succ k ih =>
    intro σ hP hk hd hF
    rw [nI_pred]
    refine g_blk (pc' := 7) (loc' := [some (vR (5, 0, 0)), some (vL x), none, none, some (vI (nI k))]) (st' := [vI (nI k)]) (σ' := σ) fl2_ok [(5, .iload 4)] (by decide +kernel) rfl rfl ?_
    refine g_if_lt (off := 60) (tgt := 67) (by decide +kernel) (by decide) (fun zc7 => ?_) (fun zc7 => ?_)
    · exact absurd zc7 (nI_pos (by omega))
    · refine g_blk (pc' := 14) (loc' := [some (vR (5, 0, 0)), some (vL x), none, none, some (vI (nI k))]) (st' := [vI (σ.1 (5, 0, 0) 1)]) (σ' := σ) fl2_ok [(10, .aload_n 0), (11, .getfield 30)] (by decide +kernel) rfl rfl ?_
      refine g_if_lt (off := 47) (tgt := 61) (by decide +kernel) (by decide) (fun zc14 => ?_) (fun zc14 => ?_)
      · rw [hP.2] at zc14
        exact absurd zc14 (nI_pos (by omega))
      · refine g_blk (pc' := 25) (loc' := [some (vR (5, 0, 0)), some (vL x), none, none, some (vI (nI k))]) (st' := [vR (6, 0, 0), vI (σ.1 (5, 0, 0) 1)]) (σ' := σ) fl2_ok [(17, .aload_n 0), (18, .getfield 30), (21, .aload_n 0), (22, .getfield 9)] (by decide +kernel) rfl rfl ?_
        refine g_alen (x := (1, 60)) rfl (Nat.le_of_ble_eq_true rfl) (by decide +kernel) ?_
        refine g_icmp_ge (off := 35) (tgt := 61) (by decide +kernel) (by decide) (fun zc26 => ?_) (fun zc26 => ?_)
        · rw [hP.2] at zc26
          exact absurd zc26 (nI_ge (b := 60) (by omega) (by decide))
        · refine g_blk (pc' := 44) (loc' := [some (vR (5, 0, 0)), some (vL x), none, none, some (vI (nI k))]) (st' := [vL ((x.toUInt64 >>> (((8 : Int32) * (nI k)).toInt64.toUInt64 &&& Int64.toUInt64 63)).toInt64), vI (σ.1 (5, 0, 0) 1), vR (6, 0, 0)]) (σ' := σ) fl2_ok [(29, .aload_n 0), (30, .getfield 9), (33, .aload_n 0), (34, .getfield 30), (37, .lload_n 1), (38, .bipush 8), (40, .iload 4), (42, .imul), (43, .lushr)] (by decide +kernel) rfl rfl ?_
          refine g_ldc2 (v := 255) kl_RX2 (by decide +kernel) ?_
          refine g_blk (pc' := 50) (loc' := [some (vR (5, 0, 0)), some (vL x), none, none, some (vI (nI k))]) (st' := [vI ((((((x.toUInt64 >>> (((8 : Int32) * (nI k)).toInt64.toUInt64 &&& Int64.toUInt64 63)).toInt64) &&& (255 : Int64)).toInt32).toUInt32 % 65536).toInt32), vI (σ.1 (5, 0, 0) 1), vR (6, 0, 0)]) (σ' := σ) fl2_ok [(47, .land), (48, .l2i), (49, .i2c)] (by decide +kernel) rfl rfl ?_
          refine g_cast (n := 60) rfl (by rw [hP.2]; exact vp_in_nI (by omega) (by decide)) (by decide +kernel) ?_
          rw [hP.2, nI_clamp (by omega)]
          show G l (Rm 0) RX2 cX2_append 5 none _ _ _ _ (upd2 σ.1 (6, 0, 0) (pN σ) (chC x k), σ.2)
          generalize hσa : ((upd2 σ.1 (6, 0, 0) (pN σ) (chC x k), σ.2) : Sg) = σa
          have hla : σa.1 (5, 0, 0) 1 = nI (pN σ) := by rw [pad_at6 hσa]; exact hP.2
          refine g_blk (pc' := 61) (loc' := [some (vR (5, 0, 0)), some (vL x), none, none, some (vI (nI k))]) (st' := []) (σ' := (upd2 σa.1 (5, 0, 0) 1 ((σa.1 (5, 0, 0) 1) + (1 : Int32)), σa.2)) fl2_ok [(51, .aload_n 0), (52, .dup), (53, .getfield 30), (56, .iconst 1), (57, .iadd), (58, .putfield 30)] (by decide +kernel) rfl rfl ?_
          generalize hσ1 : ((upd2 σa.1 (5, 0, 0) 1 ((σa.1 (5, 0, 0) 1) + (1 : Int32)), σa.2) : Sg) = σ1
          rw [hla, nI_1] at hσ1
          obtain ⟨g1, g2, g3⟩ := pad_app hP (by omega) hσa hσ1
          refine g_blk (pc' := 5) (loc' := [some (vR (5, 0, 0)), some (vL x), none, none, some (vI ((nI k) + (-1 : Int32)))]) (st' := []) (σ' := σ1) fl2_ok [(61, .iinc 4 (-1)), (64, .goto (-59))] (by decide +kernel) rfl rfl ?_
          have hpn : pN σ1 = pN σ + 1 := congrArg Prod.fst g2
          rw [im1]
          exact ih σ1 g1 (by omega) (by rw [g2]; exact hd) (hF.tr g3)
set_option maxHeartbeats 2000000 in
theorem c_X2_append (l : Launch) {σ : Sg} {x : Int64} {c : Nat} (hP : PadOK σ) (hc : pN σ + c ≤ 60) : Con l 0 yX2_append cX2_append 5 none [vR (5, 0, 0), vL x, vI (nI c)] σ (fun o σ' => o = none ∧ PadOK σ' ∧ pv σ' = appF x c (pv σ) ∧ FrP σ σ') := by
  refine con_of pn_X2_append (Nat.le_of_ble_eq_true rfl) (fun hPK hok => ?_)
  show G l (Rm 0) RX2 cX2_append 5 none _ 0 [some (vR (5, 0, 0)), some (vL x), none, some (vI (nI c)), none] [] σ
  refine g_blk (pc' := 5) (loc' := [some (vR (5, 0, 0)), some (vL x), none, some (vI (nI c)), some (vI ((nI c) - (1 : Int32)))]) (st' := []) (σ' := σ) fl2_ok [(0, .iload_n 3), (1, .iconst 1), (2, .isub), (3, .istore 4)] (by decide +kernel) rfl rfl ?_
  refine g_sub (loc' := [some (vR (5, 0, 0)), some (vL x), none, none, some (vI (nI c - 1))]) ⟨Or.inr rfl, Or.inr rfl, Or.inr rfl, Or.inl rfl, Or.inr rfl, trivial⟩ ?_
  exact lp_X2_append l c σ hP hc rfl ⟨fun _ _ _ => rfl, rfl⟩
def addP (T : TV) (f g : Int32) : TV := twr 2 (twr 2 (tapp T) (nI T.1) 0 f) (nI T.1) 1 g
def rdF (P : PV) : Nat → Nat → TV → Int32 × TV
  | 0, s, T => (nI s, T)
  | k + 1, s, T =>
    if ¬ eonS P s = s then
      (if ¬ P.2 (eonS P s) = 45 then
        (if ¬ eonS P s = P.1 then (if P.2 (eonS P s) = 44 then rdF P k (eonS P s + 1) (addP T (numS P s (eonS P s)) (numS P s (eonS P s))) else (nI (eonS P s), addP T (numS P s (eonS P s)) (numS P s (eonS P s)))) else (-6, addP T (numS P s (eonS P s)) (numS P s (eonS P s))))
      else if eonS P (eonS P s + 1) = eonS P s + 1 then (nI (eonS P s + 1), T)
      else if numS P s (eonS P s) ≤ numS P (eonS P s + 1) (eonS P (eonS P s + 1)) then
        (if ¬ eonS P (eonS P s + 1) = P.1 then (if P.2 (eonS P (eonS P s + 1)) = 44 then rdF P k (eonS P (eonS P s + 1) + 1) (addP T (numS P s (eonS P s)) (numS P (eonS P s + 1) (eonS P (eonS P s + 1)))) else (nI (eonS P (eonS P s + 1)), addP T (numS P s (eonS P s)) (numS P (eonS P s + 1) (eonS P (eonS P s + 1))))) else (-6, addP T (numS P s (eonS P s)) (numS P (eonS P s + 1) (eonS P (eonS P s + 1)))))
      else (nI (eonS P s + 1), T))
    else (nI s, T)
theorem eon_in {σ : Sg} {s : Nat} (h : ¬ eonS (pv σ) s = s) : s < pN σ := by
  rcases Nat.lt_or_ge s (pN σ) with q | q
  · exact q
  · exfalso
    apply h
    have e : (pv σ).2 s = 0 := if_neg (by omega)
    rw [eonS, e]
    rfl
theorem pv_in {σ : Sg} {s : Nat} (h : (pv σ).2 s = 44) : s < pN σ := by
  rcases Nat.lt_or_ge s (pN σ) with q | q
  · exact q
  · exfalso
    have e : (pv σ).2 s = 0 := if_neg (by omega)
    rw [e] at h
    exact absurd h (by decide)
theorem tw_pad {σ σ' : Sg} {T : TV} (h : TW 5 0 T σ σ') : pv σ' = pv σ ∧ (PadOK σ → PadOK σ') := by
  have e5 : σ'.1 (5, 0, 0) = σ.1 (5, 0, 0) := h.2.2.1 (5, 0, 0) (by simp) (by simp)
  have e6 : σ'.1 (6, 0, 0) = σ.1 (6, 0, 0) := h.2.2.1 (6, 0, 0) (by simp) (by simp)
  have en : pN σ' = pN σ := by rw [pN, pN, e5]
  refine ⟨by rw [pv, pv, en, e6], fun hP => ?_⟩
  rw [PadOK, en, e5]
  exact hP
set_option maxHeartbeats 2000000 in
theorem c_X2_addPart (l : Launch) {σ : Sg}  (hT : TOK σ 5 0) (hn : tN σ 5 0 < 30) (f g : Int32) : Con l 2 yX2_addPart cX2_addPart 4 none [vR (5, 0, 0), vI f, vI g] σ (fun o σ' => o = none ∧ TW 5 0 (addP (tabs σ 5 0) f g) σ σ') := by
  refine con_of pn_X2_addPart (Nat.le_of_ble_eq_true rfl) (fun hPK hok => ?_)
  show G l (Rm 2) RX2 cX2_addPart 4 none _ 0 [some (vR (5, 0, 0)), some (vI f), some (vI g), none] [] σ
  refine g_blk (pc' := 4) (loc' := [some (vR (5, 0, 0)), some (vI f), some (vI g), none]) (st' := [vR (0, 5, 0)]) (σ' := σ) fl2_ok [(0, .aload_n 0), (1, .getfield 20)] (by decide +kernel) rfl rfl ?_
  refine g_callV (0, 5, 0) [] [] vl_RX2_51 mi_X3_append (c_X3_append l hT hn) rfl rfl rfl rfl ⟨Nat.le_of_ble_eq_true rfl, Nat.le_of_ble_eq_true rfl⟩ rfl (Nat.le_of_ble_eq_true rfl) (by decide +kernel) (fun o σ1 hPσ1 => ?_)
  obtain ⟨rfl, hWσ1⟩ := hPσ1
  refine g_blk (pc' := 15) (loc' := [some (vR (5, 0, 0)), some (vI f), some (vI g), some (vI (nI (tN σ 5 0)))]) (st' := [vI f, vI (0 : Int32), vI (nI (tN σ 5 0)), vR (0, 5, 0)]) (σ' := σ1) fl2_ok [(7, .istore_n 3), (8, .aload_n 0), (9, .getfield 20), (12, .iload_n 3), (13, .iconst 0), (14, .iload_n 1)] (by decide +kernel) rfl rfl ?_
  refine g_callV (0, 5, 0) [vI (nI (tN σ 5 0)), vI (0 : Int32), vI f] [] vl_RX2_55 mi_X3_write (c_X3_write l (nI (tN σ 5 0)) (0 : Int32) f hWσ1.2.1) rfl rfl rfl rfl ⟨Nat.le_of_ble_eq_true rfl, Nat.le_of_ble_eq_true rfl⟩ rfl (Nat.le_of_ble_eq_true rfl) (by decide +kernel) (fun o σ2 hPσ2 => ?_)
  obtain ⟨rfl, hWσ2⟩ := hPσ2
  refine g_blk (pc' := 25) (loc' := [some (vR (5, 0, 0)), some (vI f), some (vI g), some (vI (nI (tN σ 5 0)))]) (st' := [vI g, vI (1 : Int32), vI (nI (tN σ 5 0)), vR (0, 5, 0)]) (σ' := σ2) fl2_ok [(18, .aload_n 0), (19, .getfield 20), (22, .iload_n 3), (23, .iconst 1), (24, .iload_n 2)] (by decide +kernel) rfl rfl ?_
  refine g_callV (0, 5, 0) [vI (nI (tN σ 5 0)), vI (1 : Int32), vI g] [] vl_RX2_55 mi_X3_write (c_X3_write l (nI (tN σ 5 0)) (1 : Int32) g hWσ2.2.1) rfl rfl rfl rfl ⟨Nat.le_of_ble_eq_true rfl, Nat.le_of_ble_eq_true rfl⟩ rfl (Nat.le_of_ble_eq_true rfl) (by decide +kernel) (fun o σ3 hPσ3 => ?_)
  obtain ⟨rfl, hWσ3⟩ := hPσ3
  exact g_vret (by decide +kernel) ⟨rfl, ⟨by rw [hWσ3.1, hWσ2.1, hWσ1.1] <;> rfl, hWσ3.2.1, (hWσ1.2.2.tr hWσ2.2.2).tr hWσ3.2.2⟩⟩
set_option maxHeartbeats 4000000 in
theorem lp_X2_read (l : Launch) {σ0 : Sg} {Rf : Int32 × TV} : ∀ (k s i : Nat) (σ : Sg) {T : TV}, i + k = 61 → PadOK σ → pv σ = pv σ0 → s ≤ 60 → 2 * i ≤ s → TW 5 0 T σ0 σ → tN σ 5 0 = i → rdF (pv σ) k s T = Rf → G l (Rm 3) RX2 cX2_read 7 (some .int) (fun o σ' => o = some (vI Rf.1) ∧ TW 5 0 Rf.2 σ0 σ') 11 [some (vR (5, 0, 0)), some (vI (nI s)), some (vI (nI i)), none, none, none, none] [] σ := by
  intro k
  induction k with
  | zero =>
    intro s i σ T hk hP hpv hs h2 hTW hTi hd
    refine g_blk (pc' := 14) (loc' := [some (vR (5, 0, 0)), some (vI (nI s)), some (vI (nI i)), none, none, none, none]) (st' := [vI (60 : Int32), vI (nI i)]) (σ' := σ) fl2_ok [(11, .iload_n 2), (12, .bipush 60)] (by decide +kernel) rfl rfl ?_
    refine g_icmp_gt (off := 116) (tgt := 130) (by decide +kernel) (by decide) (fun zc14 => ?_) (fun zc14 => ?_)
    · rw [show (60 : Int32) = nI 60 from rfl, nI_ltI (by decide) (by omega)] at zc14
      refine g_blk (pc' := 131) (loc' := [some (vR (5, 0, 0)), some (vI (nI s)), some (vI (nI i)), none, none, none, none]) (st' := [vI (nI s)]) (σ' := σ) fl2_ok [(130, .iload_n 1)] (by decide +kernel) rfl rfl ?_
      rw [rdF] at hd
      exact g_iret (by decide +kernel) ⟨by rw [← hd], by rw [← hd]; exact hTW⟩
    · rw [show (60 : Int32) = nI 60 from rfl, nI_ltI (by decide) (by omega)] at zc14
      exact absurd (by omega) zc14
  | succ k ih =>
    intro s i σ T hk hP hpv hs h2 hTW hTi hd
    refine g_blk (pc' := 14) (loc' := [some (vR (5, 0, 0)), some (vI (nI s)), some (vI (nI i)), none, none, none, none]) (st' := [vI (60 : Int32), vI (nI i)]) (σ' := σ) fl2_ok [(11, .iload_n 2), (12, .bipush 60)] (by decide +kernel) rfl rfl ?_
    refine g_icmp_gt (off := 116) (tgt := 130) (by decide +kernel) (by decide) (fun zc14 => ?_) (fun zc14 => ?_)
    · rw [show (60 : Int32) = nI 60 from rfl, nI_ltI (by decide) (by omega)] at zc14
      exact absurd zc14 (by omega)
    · rw [show (60 : Int32) = nI 60 from rfl, nI_ltI (by decide) (by omega)] at zc14
      have hb1 := eon_le (pv σ) s
      have hb2 := eon_le (pv σ) (eonS (pv σ) s + 1)
      have hp60 := hP.1
      refine g_blk (pc' := 19) (loc' := [some (vR (5, 0, 0)), some (vI (nI s)), some (vI (nI i)), none, none, none, none]) (st' := [vI (nI s), vR (5, 0, 0)]) (σ' := σ) fl2_ok [(17, .aload_n 0), (18, .iload_n 1)] (by decide +kernel) rfl rfl ?_
      refine g_callVp (5, 0, 0) [vI (nI s)] [] vl_RX2_41 mi_X2_endOfNumber (c_X2_endOfNumber l (i := s) hP (by omega)) rfl rfl rfl rfl ⟨Nat.le_of_ble_eq_true rfl, Nat.le_of_ble_eq_true rfl⟩ rfl (Nat.le_of_ble_eq_true rfl) (by decide +kernel) ?_
      refine g_blk (pc' := 25) (loc' := [some (vR (5, 0, 0)), some (vI (nI s)), some (vI (nI i)), some (vI (nI (eonS (pv σ) s))), none, none, none]) (st' := [vI (nI s), vI (nI (eonS (pv σ) s))]) (σ' := σ) fl2_ok [(22, .istore_n 3), (23, .iload_n 3), (24, .iload_n 1)] (by decide +kernel) rfl rfl ?_
      refine g_icmp_ne (off := 5) (tgt := 30) (by decide +kernel) (by decide) (fun zc25 => ?_) (fun zc25 => ?_)
      · rw [nI_eq (by omega) (by omega)] at zc25
        refine g_blk (pc' := 33) (loc' := [some (vR (5, 0, 0)), some (vI (nI s)), some (vI (nI i)), some (vI (nI (eonS (pv σ) s))), none, none, none]) (st' := [vI (nI (eonS (pv σ) s)), vI (nI s), vR (5, 0, 0)]) (σ' := σ) fl2_ok [(30, .aload_n 0), (31, .iload_n 1), (32, .iload_n 3)] (by decide +kernel) rfl rfl ?_
        refine g_callVp (5, 0, 0) [vI (nI s), vI (nI (eonS (pv σ) s))] [] vl_RX2_44 mi_X2_numberIn (c_X2_numberIn l (i := s) (j := (eonS (pv σ) s)) hP (eon_le _ _).1 (by omega)) rfl rfl rfl rfl ⟨Nat.le_of_ble_eq_true rfl, Nat.le_of_ble_eq_true rfl⟩ rfl (Nat.le_of_ble_eq_true rfl) (by decide +kernel) ?_
        refine g_blk (pc' := 44) (loc' := [some (vR (5, 0, 0)), some (vI (nI s)), some (vI (nI i)), some (vI (nI (eonS (pv σ) s))), some (vI (numS (pv σ) s (eonS (pv σ) s))), some (vI (numS (pv σ) s (eonS (pv σ) s))), none]) (st' := [vI (nI (eonS (pv σ) s)), vR (5, 0, 0)]) (σ' := σ) fl2_ok [(36, .istore 4), (38, .iload 4), (40, .istore 5), (42, .aload_n 0), (43, .iload_n 3)] (by decide +kernel) rfl rfl ?_
        refine g_callVp (5, 0, 0) [vI (nI (eonS (pv σ) s))] [] vl_RX2_34 mi_X2_characterAt (c_X2_characterAt l (i := (eonS (pv σ) s)) hP (by omega)) rfl rfl rfl rfl ⟨Nat.le_of_ble_eq_true rfl, Nat.le_of_ble_eq_true rfl⟩ rfl (Nat.le_of_ble_eq_true rfl) (by decide +kernel) ?_
        refine g_blk (pc' := 49) (loc' := [some (vR (5, 0, 0)), some (vI (nI s)), some (vI (nI i)), some (vI (nI (eonS (pv σ) s))), some (vI (numS (pv σ) s (eonS (pv σ) s))), some (vI (numS (pv σ) s (eonS (pv σ) s))), none]) (st' := [vI (45 : Int32), vI ((pv σ).2 (eonS (pv σ) s))]) (σ' := σ) fl2_ok [(47, .bipush 45)] (by decide +kernel) rfl rfl ?_
        refine g_icmp_ne (off := 40) (tgt := 89) (by decide +kernel) (by decide) (fun zc49 => ?_) (fun zc49 => ?_)
        · refine g_blk (pc' := 94) (loc' := [some (vR (5, 0, 0)), some (vI (nI s)), some (vI (nI i)), some (vI (nI (eonS (pv σ) s))), some (vI (numS (pv σ) s (eonS (pv σ) s))), some (vI (numS (pv σ) s (eonS (pv σ) s))), none]) (st' := [vI (numS (pv σ) s (eonS (pv σ) s)), vI (numS (pv σ) s (eonS (pv σ) s)), vR (5, 0, 0)]) (σ' := σ) fl2_ok [(89, .aload_n 0), (90, .iload 4), (92, .iload 5)] (by decide +kernel) rfl rfl ?_
          refine g_callV (5, 0, 0) [vI (numS (pv σ) s (eonS (pv σ) s)), vI (numS (pv σ) s (eonS (pv σ) s))] [] vl_RX2_48 mi_X2_addPart (c_X2_addPart l hTW.2.1 (by have hin0 := eon_in zc25; omega) (numS (pv σ) s (eonS (pv σ) s)) (numS (pv σ) s (eonS (pv σ) s))) rfl rfl rfl rfl ⟨Nat.le_of_ble_eq_true rfl, Nat.le_of_ble_eq_true rfl⟩ rfl (Nat.le_of_ble_eq_true rfl) (by decide +kernel) (fun o σ1 hPσ1 => ?_)
          obtain ⟨rfl, hWσ1⟩ := hPσ1
          refine g_blk (pc' := 102) (loc' := [some (vR (5, 0, 0)), some (vI (nI s)), some (vI (nI i)), some (vI (nI (eonS (pv σ) s))), some (vI (numS (pv σ) s (eonS (pv σ) s))), some (vI (numS (pv σ) s (eonS (pv σ) s))), none]) (st' := [vI (σ1.1 (5, 0, 0) 1), vI (nI (eonS (pv σ) s))]) (σ' := σ1) fl2_ok [(97, .iload_n 3), (98, .aload_n 0), (99, .getfield 30)] (by decide +kernel) rfl rfl ?_
          refine g_icmp_ne (off := 6) (tgt := 108) (by decide +kernel) (by decide) (fun zc102 => ?_) (fun zc102 => ?_)
          · rw [(tw_pad hWσ1).2 hP |>.2, show pN σ1 = (pv σ).1 from congrArg Prod.fst (tw_pad hWσ1).1, nI_eq (by omega) (show (pv σ).1 < 2 ^ 31 from Nat.lt_of_le_of_lt hp60 (by decide))] at zc102
            refine g_blk (pc' := 110) (loc' := [some (vR (5, 0, 0)), some (vI (nI s)), some (vI (nI i)), some (vI (nI (eonS (pv σ) s))), some (vI (numS (pv σ) s (eonS (pv σ) s))), some (vI (numS (pv σ) s (eonS (pv σ) s))), none]) (st' := [vI (nI (eonS (pv σ) s)), vR (5, 0, 0)]) (σ' := σ1) fl2_ok [(108, .aload_n 0), (109, .iload_n 3)] (by decide +kernel) rfl rfl ?_
            refine g_callVp (5, 0, 0) [vI (nI (eonS (pv σ) s))] [] vl_RX2_34 mi_X2_characterAt (c_X2_characterAt l (i := (eonS (pv σ) s)) ((tw_pad hWσ1).2 hP) (by omega)) rfl rfl rfl rfl ⟨Nat.le_of_ble_eq_true rfl, Nat.le_of_ble_eq_true rfl⟩ rfl (Nat.le_of_ble_eq_true rfl) (by decide +kernel) ?_
            refine g_blk (pc' := 115) (loc' := [some (vR (5, 0, 0)), some (vI (nI s)), some (vI (nI i)), some (vI (nI (eonS (pv σ) s))), some (vI (numS (pv σ) s (eonS (pv σ) s))), some (vI (numS (pv σ) s (eonS (pv σ) s))), none]) (st' := [vI (44 : Int32), vI ((pv σ1).2 (eonS (pv σ) s))]) (σ' := σ1) fl2_ok [(113, .bipush 44)] (by decide +kernel) rfl rfl ?_
            refine g_icmp_eq (off := 5) (tgt := 120) (by decide +kernel) (by decide) (fun zc115 => ?_) (fun zc115 => ?_)
            · rw [(tw_pad hWσ1).1] at zc115
              refine g_blk (pc' := 11) (loc' := [some (vR (5, 0, 0)), some (vI ((nI (eonS (pv σ) s)) + (1 : Int32))), some (vI ((nI i) + (1 : Int32))), some (vI (nI (eonS (pv σ) s))), some (vI (numS (pv σ) s (eonS (pv σ) s))), some (vI (numS (pv σ) s (eonS (pv σ) s))), none]) (st' := []) (σ' := σ1) fl2_ok [(120, .iload_n 3), (121, .iconst 1), (122, .iadd), (123, .istore_n 1), (124, .iinc 2 1), (127, .goto (-116))] (by decide +kernel) rfl rfl ?_
              rw [rdF, if_pos zc25, if_pos zc49, if_pos zc102, if_pos zc115] at hd
              have hin := pv_in zc115
              have htp := tw_pad hWσ1
              have hTn : tN σ1 5 0 = i + 1 := by
                have e : (tabs σ1 5 0).1 = tN σ 5 0 + 1 := by rw [hWσ1.1]; rfl
                rw [← hTi]; exact e
              rw [nI_1, nI_1]
              refine g_sub (loc' := [some (vR (5, 0, 0)), some (vI (nI ((eonS (pv σ) s) + 1))), some (vI (nI (i + 1))), none, none, none, none]) ⟨Or.inr rfl, Or.inr rfl, Or.inr rfl, Or.inl rfl, Or.inl rfl, Or.inl rfl, Or.inr rfl, trivial⟩ ?_
              exact ih ((eonS (pv σ) s) + 1) (i + 1) σ1 (by omega) (htp.2 hP) (by rw [htp.1]; exact hpv) (by omega) (by omega) (by rw [hTW.1] at hWσ1; exact hTW.tr hWσ1) hTn (by rw [htp.1]; exact hd)
            · rw [(tw_pad hWσ1).1] at zc115
              refine g_blk (pc' := 119) (loc' := [some (vR (5, 0, 0)), some (vI (nI s)), some (vI (nI i)), some (vI (nI (eonS (pv σ) s))), some (vI (numS (pv σ) s (eonS (pv σ) s))), some (vI (numS (pv σ) s (eonS (pv σ) s))), none]) (st' := [vI (nI (eonS (pv σ) s))]) (σ' := σ1) fl2_ok [(118, .iload_n 3)] (by decide +kernel) rfl rfl ?_
              rw [rdF, if_pos zc25, if_pos zc49, if_pos zc102, if_neg zc115] at hd
              exact g_iret (by decide +kernel) ⟨by rw [← hd], by rw [← hd]; rw [hTW.1] at hWσ1; exact hTW.tr hWσ1⟩
          · rw [(tw_pad hWσ1).2 hP |>.2, show pN σ1 = (pv σ).1 from congrArg Prod.fst (tw_pad hWσ1).1, nI_eq (by omega) (show (pv σ).1 < 2 ^ 31 from Nat.lt_of_le_of_lt hp60 (by decide))] at zc102
            refine g_blk (pc' := 107) (loc' := [some (vR (5, 0, 0)), some (vI (nI s)), some (vI (nI i)), some (vI (nI (eonS (pv σ) s))), some (vI (numS (pv σ) s (eonS (pv σ) s))), some (vI (numS (pv σ) s (eonS (pv σ) s))), none]) (st' := [vI (-6 : Int32)]) (σ' := σ1) fl2_ok [(105, .bipush (-6))] (by decide +kernel) rfl rfl ?_
            rw [rdF, if_pos zc25, if_pos zc49, if_neg (not_not_intro zc102)] at hd
            exact g_iret (by decide +kernel) ⟨by rw [← hd], by rw [← hd]; rw [hTW.1] at hWσ1; exact hTW.tr hWσ1⟩
        · refine g_blk (pc' := 60) (loc' := [some (vR (5, 0, 0)), some (vI (nI s)), some (vI (nI i)), some (vI (nI (eonS (pv σ) s))), some (vI (numS (pv σ) s (eonS (pv σ) s))), some (vI (numS (pv σ) s (eonS (pv σ) s))), some (vI ((nI (eonS (pv σ) s)) + (1 : Int32)))]) (st' := [vI ((nI (eonS (pv σ) s)) + (1 : Int32)), vR (5, 0, 0)]) (σ' := σ) fl2_ok [(52, .iload_n 3), (53, .iconst 1), (54, .iadd), (55, .istore 6), (57, .aload_n 0), (58, .iload 6)] (by decide +kernel) rfl rfl ?_
          rw [nI_1]
          refine g_callVp (5, 0, 0) [vI (nI ((eonS (pv σ) s) + 1))] [] vl_RX2_41 mi_X2_endOfNumber (c_X2_endOfNumber l (i := ((eonS (pv σ) s) + 1)) hP (by omega)) rfl rfl rfl rfl ⟨Nat.le_of_ble_eq_true rfl, Nat.le_of_ble_eq_true rfl⟩ rfl (Nat.le_of_ble_eq_true rfl) (by decide +kernel) ?_
          refine g_blk (pc' := 68) (loc' := [some (vR (5, 0, 0)), some (vI (nI s)), some (vI (nI i)), some (vI (nI (eonS (pv σ) ((eonS (pv σ) s) + 1)))), some (vI (numS (pv σ) s (eonS (pv σ) s))), some (vI (numS (pv σ) s (eonS (pv σ) s))), some (vI (nI ((eonS (pv σ) s) + 1)))]) (st' := [vI (nI (eonS (pv σ) ((eonS (pv σ) s) + 1))), vI (nI ((eonS (pv σ) s) + 1)), vR (5, 0, 0)]) (σ' := σ) fl2_ok [(63, .istore_n 3), (64, .aload_n 0), (65, .iload 6), (67, .iload_n 3)] (by decide +kernel) rfl rfl ?_
          refine g_callVp (5, 0, 0) [vI (nI ((eonS (pv σ) s) + 1)), vI (nI (eonS (pv σ) ((eonS (pv σ) s) + 1)))] [] vl_RX2_44 mi_X2_numberIn (c_X2_numberIn l (i := ((eonS (pv σ) s) + 1)) (j := (eonS (pv σ) ((eonS (pv σ) s) + 1))) hP (eon_le _ _).1 (by omega)) rfl rfl rfl rfl ⟨Nat.le_of_ble_eq_true rfl, Nat.le_of_ble_eq_true rfl⟩ rfl (Nat.le_of_ble_eq_true rfl) (by decide +kernel) ?_
          refine g_blk (pc' := 76) (loc' := [some (vR (5, 0, 0)), some (vI (nI s)), some (vI (nI i)), some (vI (nI (eonS (pv σ) ((eonS (pv σ) s) + 1)))), some (vI (numS (pv σ) s (eonS (pv σ) s))), some (vI (numS (pv σ) ((eonS (pv σ) s) + 1) (eonS (pv σ) ((eonS (pv σ) s) + 1)))), some (vI (nI ((eonS (pv σ) s) + 1)))]) (st' := [vI (nI ((eonS (pv σ) s) + 1)), vI (nI (eonS (pv σ) ((eonS (pv σ) s) + 1)))]) (σ' := σ) fl2_ok [(71, .istore 5), (73, .iload_n 3), (74, .iload 6)] (by decide +kernel) rfl rfl ?_
          refine g_icmp_eq (off := 10) (tgt := 86) (by decide +kernel) (by decide) (fun zc76 => ?_) (fun zc76 => ?_)
          · rw [nI_eq (by omega) (by omega)] at zc76
            refine g_blk (pc' := 88) (loc' := [some (vR (5, 0, 0)), some (vI (nI s)), some (vI (nI i)), some (vI (nI (eonS (pv σ) ((eonS (pv σ) s) + 1)))), some (vI (numS (pv σ) s (eonS (pv σ) s))), some (vI (numS (pv σ) ((eonS (pv σ) s) + 1) (eonS (pv σ) ((eonS (pv σ) s) + 1)))), some (vI (nI ((eonS (pv σ) s) + 1)))]) (st' := [vI (nI ((eonS (pv σ) s) + 1))]) (σ' := σ) fl2_ok [(86, .iload 6)] (by decide +kernel) rfl rfl ?_
            rw [rdF, if_pos zc25, if_neg (not_not_intro zc49), if_pos zc76] at hd
            exact g_iret (by decide +kernel) ⟨by rw [← hd], by rw [← hd]; exact hTW⟩
          · rw [nI_eq (by omega) (by omega)] at zc76
            refine g_blk (pc' := 83) (loc' := [some (vR (5, 0, 0)), some (vI (nI s)), some (vI (nI i)), some (vI (nI (eonS (pv σ) ((eonS (pv σ) s) + 1)))), some (vI (numS (pv σ) s (eonS (pv σ) s))), some (vI (numS (pv σ) ((eonS (pv σ) s) + 1) (eonS (pv σ) ((eonS (pv σ) s) + 1)))), some (vI (nI ((eonS (pv σ) s) + 1)))]) (st' := [vI (numS (pv σ) s (eonS (pv σ) s)), vI (numS (pv σ) ((eonS (pv σ) s) + 1) (eonS (pv σ) ((eonS (pv σ) s) + 1)))]) (σ' := σ) fl2_ok [(79, .iload 5), (81, .iload 4)] (by decide +kernel) rfl rfl ?_
            refine g_icmp_ge (off := 6) (tgt := 89) (by decide +kernel) (by decide) (fun zc83 => ?_) (fun zc83 => ?_)
            · refine g_blk (pc' := 94) (loc' := [some (vR (5, 0, 0)), some (vI (nI s)), some (vI (nI i)), some (vI (nI (eonS (pv σ) ((eonS (pv σ) s) + 1)))), some (vI (numS (pv σ) s (eonS (pv σ) s))), some (vI (numS (pv σ) ((eonS (pv σ) s) + 1) (eonS (pv σ) ((eonS (pv σ) s) + 1)))), some (vI (nI ((eonS (pv σ) s) + 1)))]) (st' := [vI (numS (pv σ) ((eonS (pv σ) s) + 1) (eonS (pv σ) ((eonS (pv σ) s) + 1))), vI (numS (pv σ) s (eonS (pv σ) s)), vR (5, 0, 0)]) (σ' := σ) fl2_ok [(89, .aload_n 0), (90, .iload 4), (92, .iload 5)] (by decide +kernel) rfl rfl ?_
              refine g_callV (5, 0, 0) [vI (numS (pv σ) s (eonS (pv σ) s)), vI (numS (pv σ) ((eonS (pv σ) s) + 1) (eonS (pv σ) ((eonS (pv σ) s) + 1)))] [] vl_RX2_48 mi_X2_addPart (c_X2_addPart l hTW.2.1 (by have hin0 := eon_in zc25; omega) (numS (pv σ) s (eonS (pv σ) s)) (numS (pv σ) ((eonS (pv σ) s) + 1) (eonS (pv σ) ((eonS (pv σ) s) + 1)))) rfl rfl rfl rfl ⟨Nat.le_of_ble_eq_true rfl, Nat.le_of_ble_eq_true rfl⟩ rfl (Nat.le_of_ble_eq_true rfl) (by decide +kernel) (fun o σ2 hPσ2 => ?_)
              obtain ⟨rfl, hWσ2⟩ := hPσ2
              refine g_blk (pc' := 102) (loc' := [some (vR (5, 0, 0)), some (vI (nI s)), some (vI (nI i)), some (vI (nI (eonS (pv σ) ((eonS (pv σ) s) + 1)))), some (vI (numS (pv σ) s (eonS (pv σ) s))), some (vI (numS (pv σ) ((eonS (pv σ) s) + 1) (eonS (pv σ) ((eonS (pv σ) s) + 1)))), some (vI (nI ((eonS (pv σ) s) + 1)))]) (st' := [vI (σ2.1 (5, 0, 0) 1), vI (nI (eonS (pv σ) ((eonS (pv σ) s) + 1)))]) (σ' := σ2) fl2_ok [(97, .iload_n 3), (98, .aload_n 0), (99, .getfield 30)] (by decide +kernel) rfl rfl ?_
              refine g_icmp_ne (off := 6) (tgt := 108) (by decide +kernel) (by decide) (fun zc102 => ?_) (fun zc102 => ?_)
              · rw [(tw_pad hWσ2).2 hP |>.2, show pN σ2 = (pv σ).1 from congrArg Prod.fst (tw_pad hWσ2).1, nI_eq (by omega) (show (pv σ).1 < 2 ^ 31 from Nat.lt_of_le_of_lt hp60 (by decide))] at zc102
                refine g_blk (pc' := 110) (loc' := [some (vR (5, 0, 0)), some (vI (nI s)), some (vI (nI i)), some (vI (nI (eonS (pv σ) ((eonS (pv σ) s) + 1)))), some (vI (numS (pv σ) s (eonS (pv σ) s))), some (vI (numS (pv σ) ((eonS (pv σ) s) + 1) (eonS (pv σ) ((eonS (pv σ) s) + 1)))), some (vI (nI ((eonS (pv σ) s) + 1)))]) (st' := [vI (nI (eonS (pv σ) ((eonS (pv σ) s) + 1))), vR (5, 0, 0)]) (σ' := σ2) fl2_ok [(108, .aload_n 0), (109, .iload_n 3)] (by decide +kernel) rfl rfl ?_
                refine g_callVp (5, 0, 0) [vI (nI (eonS (pv σ) ((eonS (pv σ) s) + 1)))] [] vl_RX2_34 mi_X2_characterAt (c_X2_characterAt l (i := (eonS (pv σ) ((eonS (pv σ) s) + 1))) ((tw_pad hWσ2).2 hP) (by omega)) rfl rfl rfl rfl ⟨Nat.le_of_ble_eq_true rfl, Nat.le_of_ble_eq_true rfl⟩ rfl (Nat.le_of_ble_eq_true rfl) (by decide +kernel) ?_
                refine g_blk (pc' := 115) (loc' := [some (vR (5, 0, 0)), some (vI (nI s)), some (vI (nI i)), some (vI (nI (eonS (pv σ) ((eonS (pv σ) s) + 1)))), some (vI (numS (pv σ) s (eonS (pv σ) s))), some (vI (numS (pv σ) ((eonS (pv σ) s) + 1) (eonS (pv σ) ((eonS (pv σ) s) + 1)))), some (vI (nI ((eonS (pv σ) s) + 1)))]) (st' := [vI (44 : Int32), vI ((pv σ2).2 (eonS (pv σ) ((eonS (pv σ) s) + 1)))]) (σ' := σ2) fl2_ok [(113, .bipush 44)] (by decide +kernel) rfl rfl ?_
                refine g_icmp_eq (off := 5) (tgt := 120) (by decide +kernel) (by decide) (fun zc115 => ?_) (fun zc115 => ?_)
                · rw [(tw_pad hWσ2).1] at zc115
                  refine g_blk (pc' := 11) (loc' := [some (vR (5, 0, 0)), some (vI ((nI (eonS (pv σ) ((eonS (pv σ) s) + 1))) + (1 : Int32))), some (vI ((nI i) + (1 : Int32))), some (vI (nI (eonS (pv σ) ((eonS (pv σ) s) + 1)))), some (vI (numS (pv σ) s (eonS (pv σ) s))), some (vI (numS (pv σ) ((eonS (pv σ) s) + 1) (eonS (pv σ) ((eonS (pv σ) s) + 1)))), some (vI (nI ((eonS (pv σ) s) + 1)))]) (st' := []) (σ' := σ2) fl2_ok [(120, .iload_n 3), (121, .iconst 1), (122, .iadd), (123, .istore_n 1), (124, .iinc 2 1), (127, .goto (-116))] (by decide +kernel) rfl rfl ?_
                  rw [rdF, if_pos zc25, if_neg (not_not_intro zc49), if_neg zc76, if_pos zc83, if_pos zc102, if_pos zc115] at hd
                  have hin := pv_in zc115
                  have htp := tw_pad hWσ2
                  have hTn : tN σ2 5 0 = i + 1 := by
                    have e : (tabs σ2 5 0).1 = tN σ 5 0 + 1 := by rw [hWσ2.1]; rfl
                    rw [← hTi]; exact e
                  rw [nI_1, nI_1]
                  refine g_sub (loc' := [some (vR (5, 0, 0)), some (vI (nI ((eonS (pv σ) ((eonS (pv σ) s) + 1)) + 1))), some (vI (nI (i + 1))), none, none, none, none]) ⟨Or.inr rfl, Or.inr rfl, Or.inr rfl, Or.inl rfl, Or.inl rfl, Or.inl rfl, Or.inl rfl, trivial⟩ ?_
                  exact ih ((eonS (pv σ) ((eonS (pv σ) s) + 1)) + 1) (i + 1) σ2 (by omega) (htp.2 hP) (by rw [htp.1]; exact hpv) (by omega) (by omega) (by rw [hTW.1] at hWσ2; exact hTW.tr hWσ2) hTn (by rw [htp.1]; exact hd)
                · rw [(tw_pad hWσ2).1] at zc115
                  refine g_blk (pc' := 119) (loc' := [some (vR (5, 0, 0)), some (vI (nI s)), some (vI (nI i)), some (vI (nI (eonS (pv σ) ((eonS (pv σ) s) + 1)))), some (vI (numS (pv σ) s (eonS (pv σ) s))), some (vI (numS (pv σ) ((eonS (pv σ) s) + 1) (eonS (pv σ) ((eonS (pv σ) s) + 1)))), some (vI (nI ((eonS (pv σ) s) + 1)))]) (st' := [vI (nI (eonS (pv σ) ((eonS (pv σ) s) + 1)))]) (σ' := σ2) fl2_ok [(118, .iload_n 3)] (by decide +kernel) rfl rfl ?_
                  rw [rdF, if_pos zc25, if_neg (not_not_intro zc49), if_neg zc76, if_pos zc83, if_pos zc102, if_neg zc115] at hd
                  exact g_iret (by decide +kernel) ⟨by rw [← hd], by rw [← hd]; rw [hTW.1] at hWσ2; exact hTW.tr hWσ2⟩
              · rw [(tw_pad hWσ2).2 hP |>.2, show pN σ2 = (pv σ).1 from congrArg Prod.fst (tw_pad hWσ2).1, nI_eq (by omega) (show (pv σ).1 < 2 ^ 31 from Nat.lt_of_le_of_lt hp60 (by decide))] at zc102
                refine g_blk (pc' := 107) (loc' := [some (vR (5, 0, 0)), some (vI (nI s)), some (vI (nI i)), some (vI (nI (eonS (pv σ) ((eonS (pv σ) s) + 1)))), some (vI (numS (pv σ) s (eonS (pv σ) s))), some (vI (numS (pv σ) ((eonS (pv σ) s) + 1) (eonS (pv σ) ((eonS (pv σ) s) + 1)))), some (vI (nI ((eonS (pv σ) s) + 1)))]) (st' := [vI (-6 : Int32)]) (σ' := σ2) fl2_ok [(105, .bipush (-6))] (by decide +kernel) rfl rfl ?_
                rw [rdF, if_pos zc25, if_neg (not_not_intro zc49), if_neg zc76, if_pos zc83, if_neg (not_not_intro zc102)] at hd
                exact g_iret (by decide +kernel) ⟨by rw [← hd], by rw [← hd]; rw [hTW.1] at hWσ2; exact hTW.tr hWσ2⟩
            · refine g_blk (pc' := 88) (loc' := [some (vR (5, 0, 0)), some (vI (nI s)), some (vI (nI i)), some (vI (nI (eonS (pv σ) ((eonS (pv σ) s) + 1)))), some (vI (numS (pv σ) s (eonS (pv σ) s))), some (vI (numS (pv σ) ((eonS (pv σ) s) + 1) (eonS (pv σ) ((eonS (pv σ) s) + 1)))), some (vI (nI ((eonS (pv σ) s) + 1)))]) (st' := [vI (nI ((eonS (pv σ) s) + 1))]) (σ' := σ) fl2_ok [(86, .iload 6)] (by decide +kernel) rfl rfl ?_
              rw [rdF, if_pos zc25, if_neg (not_not_intro zc49), if_neg zc76, if_neg zc83] at hd
              exact g_iret (by decide +kernel) ⟨by rw [← hd], by rw [← hd]; exact hTW⟩
      · rw [nI_eq (by omega) (by omega)] at zc25
        refine g_blk (pc' := 29) (loc' := [some (vR (5, 0, 0)), some (vI (nI s)), some (vI (nI i)), some (vI (nI (eonS (pv σ) s))), none, none, none]) (st' := [vI (nI s)]) (σ' := σ) fl2_ok [(28, .iload_n 1)] (by decide +kernel) rfl rfl ?_
        rw [rdF, if_neg (not_not_intro zc25)] at hd
        exact g_iret (by decide +kernel) ⟨by rw [← hd], by rw [← hd]; exact hTW⟩
set_option maxHeartbeats 2000000 in
theorem c_X2_read (l : Launch) {σ : Sg}  (hP : PadOK σ) (hT : TOK σ 5 0) : Con l 3 yX2_read cX2_read 7 (some .int) [vR (5, 0, 0)] σ (fun o σ' => o = some (vI (rdF (pv σ) 61 0 (0, fun _ _ => 0)).1) ∧ TW 5 0 (rdF (pv σ) 61 0 (0, fun _ _ => 0)).2 σ σ') := by
  refine con_of pn_X2_read (Nat.le_of_ble_eq_true rfl) (fun hPK hok => ?_)
  show G l (Rm 3) RX2 cX2_read 7 (some .int) _ 0 [some (vR (5, 0, 0)), none, none, none, none, none, none] [] σ
  refine g_blk (pc' := 4) (loc' := [some (vR (5, 0, 0)), none, none, none, none, none, none]) (st' := [vR (0, 5, 0)]) (σ' := σ) fl2_ok [(0, .aload_n 0), (1, .getfield 20)] (by decide +kernel) rfl rfl ?_
  refine g_callV (0, 5, 0) [] [] vl_RX2_38 mi_X3_clear (c_X3_clear l hT) rfl rfl rfl rfl ⟨Nat.le_of_ble_eq_true rfl, Nat.le_of_ble_eq_true rfl⟩ rfl (Nat.le_of_ble_eq_true rfl) (by decide +kernel) (fun o σ1 hPσ1 => ?_)
  obtain ⟨rfl, hWσ1⟩ := hPσ1
  refine g_blk (pc' := 11) (loc' := [some (vR (5, 0, 0)), some (vI (0 : Int32)), some (vI (0 : Int32)), none, none, none, none]) (st' := []) (σ' := σ1) fl2_ok [(7, .iconst 0), (8, .istore_n 1), (9, .iconst 0), (10, .istore_n 2)] (by decide +kernel) rfl rfl ?_
  have htp := tw_pad hWσ1
  refine g_sub (loc' := [some (vR (5, 0, 0)), some (vI (nI 0)), some (vI (nI 0)), none, none, none, none]) ⟨Or.inr rfl, Or.inr rfl, Or.inr rfl, Or.inr rfl, Or.inr rfl, Or.inr rfl, Or.inr rfl, trivial⟩ ?_
  exact lp_X2_read l 61 0 0 σ1 (by omega) (htp.2 hP) htp.1 (by omega) (by omega) hWσ1 (congrArg Prod.fst hWσ1.1) (by rw [htp.1])
end
section
/-! THE ROTA as a value: the house, the states kept, the pad; what each public method answers and makes -/
abbrev XS : Type := HA × (List HA × PV)
def HInv (S : HA) : Prop := (S.2 6 = 0 ∨ S.2 6 = 1) ∧ (S.2 6 = 0 → sz S 2 = 0)
def XOK (σ : Sg) : Prop := HOK σ 0 ∧ HOK σ 1 ∧ HiOK σ ∧ PadOK σ ∧ TOK σ 5 0 ∧ HInv (habs σ 0) ∧ ∀ S ∈ hist σ, HInv S
def xabs (σ : Sg) : XS := (habs σ 0, (hist σ, pv σ))
def FrX (σ σ' : Sg) : Prop := ∀ q : Lo, q.1 = 8 ∨ q.1 = 9 → σ'.1 q = σ.1 q
def XW (X : XS) (σ σ' : Sg) : Prop := xabs σ' = X ∧ XOK σ' ∧ FrX σ σ'
def kp (S : HA) (Hs : List HA) (P : PV) (S' : HA) : XS := (S', (keepL Hs S, P))
theorem XW.rf {σ : Sg} (h : XOK σ) : XW (habs σ 0, (hist σ, pv σ)) σ σ := ⟨rfl, h, fun _ _ => rfl⟩
theorem inv_same {S S' : HA} (h : HInv S) (h6 : S'.2 6 = S.2 6) (h2 : sz S' 2 = sz S 2) : HInv S' := by
  unfold HInv
  rw [h6, h2]
  exact h
theorem hi_FrH {σ σ' : Sg} (hi : HiOK σ) {h0 : Nat} (hF : FrH h0 σ σ') (hlt : h0 < 2) : HiOK σ' ∧ hist σ' = hist σ := by
  have e3 : σ'.1 (3, 0, 0) = σ.1 (3, 0, 0) := hF.1 (3, 0, 0) (by simp) (fun j _ => ⟨by simp, by simp⟩)
  have en : hN σ' = hN σ := by rw [hN, hN, e3]
  obtain ⟨a1, a2, a3, a4, a5⟩ := id hi
  have hne : ∀ i, i < 6 → σ.2 i ≠ h0 := fun i h z => absurd (a3 i h) (by omega)
  refine ⟨⟨by rw [en]; exact a1, by rw [en, e3]; exact a2, by rw [hF.2]; exact a3, by rw [hF.2]; exact a4, fun i h => by rw [hF.2]; exact (hw_other (hne i h) hF).2 (a5 i h)⟩, ?_⟩
  rw [hist, hist, en, hF.2]
  apply List.map_congr_left
  intro i h
  have := List.mem_range.mp h
  exact (hw_other (hne i (by omega)) hF).1
theorem pad_FrH {σ σ' : Sg} {h0 : Nat} (hF : FrH h0 σ σ') : (PadOK σ → PadOK σ') ∧ pv σ' = pv σ ∧ (TOK σ 5 0 → TOK σ' 5 0) ∧ tabs σ' 5 0 = tabs σ 5 0 := by
  have e5 : σ'.1 (5, 0, 0) = σ.1 (5, 0, 0) := hF.1 (5, 0, 0) (by simp) (fun j _ => ⟨by simp, by simp⟩)
  have e6 : σ'.1 (6, 0, 0) = σ.1 (6, 0, 0) := hF.1 (6, 0, 0) (by simp) (fun j _ => ⟨by simp, by simp⟩)
  have t0 : σ'.1 (0, 5, 0) = σ.1 (0, 5, 0) := hF.1 (0, 5, 0) (by simp) (fun j hj => ⟨fun z => by have := congrArg (fun q : Lo => q.2.1) z; simp only at this; omega, by simp⟩)
  have t1 : σ'.1 (1, 5, 0) = σ.1 (1, 5, 0) := hF.1 (1, 5, 0) (by simp) (fun j hj => ⟨by simp, fun z => by have := congrArg (fun q : Lo => q.2.1) z; simp only at this; omega⟩)
  have en : pN σ' = pN σ := by rw [pN, pN, e5]
  exact ⟨fun hP => by rw [PadOK, en, e5]; exact hP, by rw [pv, pv, en, e6], (tabs_of t0 t1).2, (tabs_of t0 t1).1⟩
theorem pad_FrHi {σ σ' : Sg} (hF : FrHi σ σ') : (PadOK σ → PadOK σ') ∧ pv σ' = pv σ ∧ (TOK σ 5 0 → TOK σ' 5 0) ∧ tabs σ' 5 0 = tabs σ 5 0 := by
  have nh : ∀ q : Lo, q.1 = 5 ∨ q.1 = 6 → ¬ isHi q := by
    rintro q hq (z | z)
    · rw [z] at hq; simp at hq
    · omega
  have e5 : σ'.1 (5, 0, 0) = σ.1 (5, 0, 0) := hF _ (nh _ (Or.inl rfl))
  have e6 : σ'.1 (6, 0, 0) = σ.1 (6, 0, 0) := hF _ (nh _ (Or.inr rfl))
  have t0 : σ'.1 (0, 5, 0) = σ.1 (0, 5, 0) := hF _ (notHi (by decide) (by decide))
  have t1 : σ'.1 (1, 5, 0) = σ.1 (1, 5, 0) := hF _ (notHi (by decide) (by decide))
  have en : pN σ' = pN σ := by rw [pN, pN, e5]
  exact ⟨fun hP => by rw [PadOK, en, e5]; exact hP, by rw [pv, pv, en, e6], (tabs_of t0 t1).2, (tabs_of t0 t1).1⟩
theorem keepL_inv {l : List HA} {S : HA} (hl : ∀ T ∈ l, HInv T) (hS : HInv S) : ∀ T ∈ keepL l S, HInv T := by
  intro T hT
  unfold keepL at hT
  rcases List.mem_append.mp hT with h | h
  · split at h
    · exact hl T h
    · exact hl T (List.mem_of_mem_tail h)
  · rw [List.mem_singleton.mp h]
    exact hS
-- a call that keeps the house and changes it
theorem x_mut {σ σ1 σ2 : Sg} {S' : HA} (hX : XOK σ) (k1 : HiOK σ1) (k2 : hist σ1 = keepL (hist σ) (habs σ 0)) (k3 : FrHi σ σ1) (h1 : habs σ2 0 = S') (h2 : HOK σ2 0) (h3 : FrH 0 σ1 σ2) (hI : HInv S') : XW (kp (habs σ 0) (hist σ) (pv σ) S') σ σ2 := by
  obtain ⟨x0, x1, x2, x3, x4, x5, x6⟩ := hX
  obtain ⟨i1, i2⟩ := hi_FrH k1 h3 (by decide)
  obtain ⟨p1, p2, p3, -⟩ := pad_FrHi k3
  obtain ⟨q1, q2, q3, -⟩ := pad_FrH h3
  have hh : hist σ2 = keepL (hist σ) (habs σ 0) := i2.trans k2
  refine ⟨?_, ⟨h2, (hw_other (by decide) h3).2 ((k3.house (by decide)).2 x1), i1, q1 (p1 x3), q3 (p3 x4), by rw [h1]; exact hI, by rw [hh]; exact keepL_inv x6 x5⟩, fun q hq => ?_⟩
  · rw [xabs, kp, h1, hh, q2, p2]
  · have nh : ¬ isHi q := by
      rintro (z | z)
      · rw [z] at hq; simp at hq
      · omega
    refine (h3.1 q ?_ (fun j _ => ⟨?_, ?_⟩)).trans (k3 q nh) <;> (intro z; rw [z] at hq; simp at hq)
def sw (n : Nat) (x : Int32) (f : Nat → Int32) (d : Int32) : Int32 := if x < 0 ∨ nI n ≤ x then d else f x.toNatClampNeg
theorem sw_lo {n : Nat} {x : Int32} {f : Nat → Int32} {d : Int32} (h : x < 0) : sw n x f d = d := if_pos (Or.inl h)
theorem sw_hi {n : Nat} {x : Int32} {f : Nat → Int32} {d : Int32} (h : nI n ≤ x) : sw n x f d = d := if_pos (Or.inr h)
theorem sw_in {n j : Nat} {f : Nat → Int32} {d : Int32} (hn : n < 2 ^ 31) (h : j < n) : sw n (nI j) f d = f j := by
  rw [sw, if_neg, nI_clamp (by omega)]
  rintro (q | q)
  · exact nI_pos (by omega) q
  · rw [nI_leI hn (by omega)] at q; omega
theorem tab_lo {x : Int32} (h : x < 0) : x.toInt < 0 := by
  have := Int32.lt_iff_toInt_lt.mp h
  simpa using this
theorem tab_hi {x : Int32} (n : Nat) (hn : n + 1 < 2 ^ 31) (h : nI (n + 1) ≤ x) : (n : Int) < x.toInt := by
  have h1 := Int32.le_iff_toInt_le.mp h
  rw [nI_toInt hn] at h1
  omega
def setOkS (s v : Int32) : Int32 := sw 4 s (fun j => match j with
  | 0 => isInS v 0 100
  | 1 => isInS v 0 100
  | 2 => isInS v 2 6
  | _ => isInS v 1 1000) 0
def xresident (S : HA) (Hs : List HA) (P : PV) (w : Int32) : Int32 × XS :=
  if ¬ isInS w 1 10 = 0 then (if fullS S 0 = 0 then (nI (sz S 0), kp S Hs P (addResS S w)) else (-4, (S, (Hs, P)))) else (-2, (S, (Hs, P)))
def xweigh (S : HA) (Hs : List HA) (P : PV) (r w : Int32) : Int32 × XS :=
  if ¬ hasT r (sz S 0) = 0 then (if ¬ isInS w 1 10 = 0 then (cl S 0 r 0, kp S Hs P (wr S 0 r 0 w)) else (-2, (S, (Hs, P)))) else (-1, (S, (Hs, P)))
def xaway (S : HA) (Hs : List HA) (P : PV) (r f t : Int32) : Int32 × XS :=
  if ¬ hasT r (sz S 0) = 0 then (if isInS f 0 999 = 0 then (-2, (S, (Hs, P))) else if ¬ isInS t f 999 = 0 then (bitS (awayS (wr (wr S 0 r 1 f) 0 r 2 t) r), kp S Hs P (wr (wr S 0 r 1 f) 0 r 2 t)) else (-2, (S, (Hs, P)))) else (-1, (S, (Hs, P)))
def xarea (S : HA) (Hs : List HA) (P : PV) (e p g : Int32) : Int32 × XS :=
  if isInS e 1 20 = 0 then (-2, (S, (Hs, P))) else if isInS p 1 4 = 0 then (-2, (S, (Hs, P))) else if ¬ isInS g 0 200 = 0 then (if fullS S 1 = 0 then (nI (sz S 1), kp S Hs P (addAreaS S e p g)) else (-4, (S, (Hs, P)))) else (-2, (S, (Hs, P)))
def xset (S : HA) (Hs : List HA) (P : PV) (s v : Int32) : Int32 × XS :=
  if ¬ setOkS s v = 0 then (cl S 4 0 s, kp S Hs P (wr S 4 0 s v)) else (-2, (S, (Hs, P)))
def xplan (S : HA) (Hs : List HA) (P : PV) : Int32 × XS :=
  if S.2 6 = 0 then (nI (sz (planS S) 2), kp S Hs P (planS S)) else (-5, (S, (Hs, P)))
def xdone (S : HA) (Hs : List HA) (P : PV) (t : Int32) : Int32 × XS :=
  if ¬ hasT t (sz S 2) = 0 then (if ¬ openS S t = 0 then (cl S 2 t 2, kp S Hs P (finS S t)) else (-5, (S, (Hs, P)))) else (-1, (S, (Hs, P)))
def xextra (S : HA) (Hs : List HA) (P : PV) (r a : Int32) : Int32 × XS :=
  if hasT r (sz S 0) = 0 then (-1, (S, (Hs, P))) else if ¬ hasT a (sz S 1) = 0 then (if cl S 0 r 4 = 0 then (-5, (S, (Hs, P))) else if awayS S r = 0 then (cl (payS S r a) 0 r 4, kp S Hs P (payS S r a)) else (-5, (S, (Hs, P)))) else (-1, (S, (Hs, P)))
def xend (S : HA) (Hs : List HA) (P : PV) : Int32 × XS :=
  if S.2 6 = 0 then (-5, (S, (Hs, P))) else if S.2 5 < 999 then (cntL S (sz S 2), kp S Hs P (endS S)) else (-5, (S, (Hs, P)))
def xpropose (S : HA) (Hs : List HA) (P : PV) (a b : Int32) : Int32 × XS :=
  if hasT a (sz S 2) = 0 then (-1, (S, (Hs, P))) else if ¬ hasT b (sz S 2) = 0 then
    (if canS S a b = 0 then (-5, (S, (Hs, P))) else if propF S a b (sz S 3) 0 = 0 then (if fullS S 3 = 0 then (nI (sz (addSwS S a b) 3), kp S Hs P (addSwS S a b)) else (-4, (S, (Hs, P)))) else (-5, (S, (Hs, P)))) else (-1, (S, (Hs, P)))
def xanswer (S : HA) (Hs : List HA) (P : PV) (s y : Int32) : Int32 × XS :=
  if ¬ hasT s (sz S 3) = 0 then (if ¬ isInS y 0 1 = 0 then (if ¬ y = 1 then (nI (sz S 3 - 1), kp S Hs P (setT S 3 (trem (S.1 3) s.toNatClampNeg))) else (nI (sz (accS S s) 3), kp S Hs P (accS S s))) else (-2, (S, (Hs, P)))) else (-1, (S, (Hs, P)))
def xabout (S : HA) (r w : Int32) : Int32 := if ¬ hasT r (sz S 0) = 0 then sw 9 w (fun j => match j with
  | 0 => cl S 0 r 0
  | 1 => cl S 0 r 3
  | 2 => cl S 0 r 4
  | 3 => cl S 0 r 5
  | 4 => loadS S r
  | 5 => rateS S r (cl S 0 r 3)
  | 6 => cntOL S r (sz S 2)
  | 7 => firstF S r (sz S 2) 0
  | _ => bitS (awayS S r)) (-2) else -1
def xroom (S : HA) (a w : Int32) : Int32 := if ¬ hasT a (sz S 1) = 0 then sw 7 w (fun j => match j with
  | 0 => cl S 1 a 0
  | 1 => cl S 1 a 1
  | 2 => cl S 1 a 2
  | 3 => cl S 1 a 3
  | 4 => bitS (deepS S a)
  | 5 => bitS (dueS S a)
  | _ => cl S 1 a 4) (-2) else -1
def xtask (S : HA) (t w : Int32) : Int32 := if ¬ hasT t (sz S 2) = 0 then sw 5 w (fun j => match j with
  | 0 => cl S 2 t 0
  | 1 => cl S 2 t 1
  | 2 => cl S 2 t 2
  | 3 => cl S 2 t 3
  | _ => cl S 2 t 4) (-2) else -1
def xswap (S : HA) (s w : Int32) : Int32 := if ¬ hasT s (sz S 3) = 0 then sw 4 w (fun j => match j with
  | 0 => cl S 3 s 0
  | 1 => cl S 3 s 1
  | 2 => cl S 2 (cl S 3 s 0) 1
  | _ => cl S 2 (cl S 3 s 1) 1) (-2) else -1
def xcount (S : HA) (Hs : List HA) (P : PV) (w : Int32) : Int32 := sw 17 w (fun j => match j with
  | 0 => S.2 5
  | 1 => nI (sz S 0)
  | 2 => nI (sz S 1)
  | 3 => nI (sz S 2)
  | 4 => cntL S (sz S 2)
  | 5 => S.2 7
  | 6 => S.2 8
  | 7 => nI (sz S 3)
  | 8 => bitS (S.2 6)
  | 9 => spreadS S 0 (-6) (-6) 0
  | 10 => spreadS S 1 (-6) (-6) 0
  | 11 => nI P.1
  | 12 => nI Hs.length
  | 13 => cl S 4 0 0
  | 14 => cl S 4 0 1
  | 15 => cl S 4 0 2
  | _ => cl S 4 0 3) (-2)
end
section
/-! THE ROTA: contracts of the public methods (laid by wip/whole/mk16.py) -/
theorem full_lt {S : HA} {j : Nat} (h : fullS S j = 0) : sz S j < mst j := by
  rcases Nat.lt_or_ge (sz S j) (mst j) with q | q
  · exact q
  · rw [fullS, if_pos q] at h
    exact absurd h (by decide)
theorem has_ex {x : Int32} {n : Nat} (hn : n < 2 ^ 31) (h : ¬ hasT x n = 0) : ∃ r, r < n ∧ x = nI r := by
  rcases pk_ix x hn with q | q | q
  · exact absurd (hasT_out (out_lo q)) h
  · exact absurd (hasT_out (out_hi hn q)) h
  · exact q
theorem give_6 : ∀ (k t : Nat) (S : HA), (giveF k t S).2 = S.2
  | 0, _, _ => rfl
  | k + 1, t, S => by rw [giveF, give_6 k (t + 1)]; rfl
theorem mk_6 : ∀ (k : Nat) (S : HA) (f : Int32), (mkS k S f).2 = S.2
  | 0, _, _ => rfl
  | k + 1, S, f => by
    rw [mkS]
    split
    · rfl
    · simp only
      rw [mk_6 k]
      split <;> rfl
theorem plan_6 (S : HA) : (planS S).2 6 = 1 := by
  unfold planS
  simp only
  split
  · rfl
  · rw [give_6, mk_6]; rfl
theorem inv_plan (S : HA) : HInv (planS S) := ⟨Or.inr (plan_6 S), fun h => by rw [plan_6] at h; exact absurd h (by decide)⟩
theorem fin_6 (S : HA) (t : Int32) : (finS S t).2 6 = S.2 6 := by
  unfold finS dropS setT
  simp only
  split <;> rfl
theorem inv_fin {S : HA} (h : HInv S) (t : Int32) : HInv (finS S t) := inv_same h (fin_6 S t) (sz_fin S t)
theorem grow_2 : ∀ (k a : Nat) (S : HA), sz (growF k a S) 2 = sz S 2
  | 0, _, _ => rfl
  | k + 1, a, S => by rw [growF, grow_2 k]; rfl
theorem decay_2 (d : Int32) : ∀ (k a : Nat) (S : HA), sz (decayF d k a S) 2 = sz S 2
  | 0, _, _ => rfl
  | k + 1, a, S => by rw [decayF, decay_2 d k]; rfl
theorem end_2 (S : HA) : sz (endS S) 2 = 0 := by
  unfold endS endR
  simp only
  show sz (growF _ _ _) 2 = 0
  rw [grow_2, decay_2]
  rfl
theorem end_6 (S : HA) : (endS S).2 6 = 0 := rfl
theorem inv_end (S : HA) : HInv (endS S) := ⟨Or.inl (end_6 S), fun _ => end_2 S⟩
set_option maxHeartbeats 2000000 in
theorem c_X4_isWeight (l : Launch) {σ : Sg}  (w : Int32) : Con l 1 yX4_isWeight cX4_isWeight 1 (some .boolean) [vI w] σ (pureP (isInS w 1 10) σ) := by
  refine con_of pn_X4_isWeight (Nat.le_of_ble_eq_true rfl) (fun hPK hok => ?_)
  show G l (Rm 1) RX4 cX4_isWeight 1 (some .boolean) _ 0 [some (vI w)] [] σ
  refine g_blk (pc' := 4) (loc' := [some (vI w)]) (st' := [vI (10 : Int32), vI (1 : Int32), vI w]) (σ' := σ) fl4_ok [(0, .iload_n 0), (1, .iconst 1), (2, .bipush 10)] (by decide +kernel) rfl rfl ?_
  refine g_callSp [vI w, vI (1 : Int32), vI (10 : Int32)] [] sl_RX4_62 mi_X4_isIn (c_X4_isIn l w (1 : Int32) (10 : Int32)) rfl ⟨Nat.le_of_ble_eq_true rfl, Nat.le_of_ble_eq_true rfl⟩ rfl (Nat.le_of_ble_eq_true rfl) (by decide +kernel) ?_
  exact g_zret (by decide +kernel) (isInS_bit _ _ _) (by exact ⟨rfl, rfl⟩)
set_option maxHeartbeats 2000000 in
theorem c_X4_isSettingValue (l : Launch) {σ : Sg}  (s v : Int32) : Con l 1 yX4_isSettingValue cX4_isSettingValue 2 (some .boolean) [vI s, vI v] σ (pureP (setOkS s v) σ) := by
  refine con_of pn_X4_isSettingValue (Nat.le_of_ble_eq_true rfl) (fun hPK hok => ?_)
  show G l (Rm 1) RX4 cX4_isSettingValue 2 (some .boolean) _ 0 [some (vI s), some (vI v)] [] σ
  refine g_blk (pc' := 1) (loc' := [some (vI s), some (vI v)]) (st' := [vI s]) (σ' := σ) fl4_ok [(0, .iload_n 0)] (by decide +kernel) rfl rfl ?_
  rcases pk_ix s (n := 4) (by decide) with zq | zq | ⟨j, hj, rfl⟩
  · refine g_tabO (dflt := 64) (lo := 0) (hi := 3) (offs := #[31, 39, 47, 55]) (len := 31) (tgt := 65) (by decide +kernel) (Or.inl (tab_lo zq)) (by decide) ?_
    refine g_blk (pc' := 66) (loc' := [some (vI s), some (vI v)]) (st' := [vI (0 : Int32)]) (σ' := σ) fl4_ok [(65, .iconst 0)] (by decide +kernel) rfl rfl ?_
    exact g_zret (by decide +kernel) (Or.inl rfl) (by rw [setOkS, sw_lo zq]; exact ⟨rfl, rfl⟩)
  · refine g_tabO (dflt := 64) (lo := 0) (hi := 3) (offs := #[31, 39, 47, 55]) (len := 31) (tgt := 65) (by decide +kernel) (Or.inr (tab_hi 3 (by decide) zq)) (by decide) ?_
    refine g_blk (pc' := 66) (loc' := [some (vI s), some (vI v)]) (st' := [vI (0 : Int32)]) (σ' := σ) fl4_ok [(65, .iconst 0)] (by decide +kernel) rfl rfl ?_
    exact g_zret (by decide +kernel) (Or.inl rfl) (by rw [setOkS, sw_hi zq]; exact ⟨rfl, rfl⟩)
  · match j, hj with
    | 0, hj =>
      refine g_tabI (dflt := 64) (lo := 0) (hi := 3) (offs := #[31, 39, 47, 55]) (len := 31) (off := 31) (tgt := 32) (by decide +kernel) (by decide) (by decide) rfl (by decide) ?_
      refine g_blk (pc' := 36) (loc' := [some (vI (nI 0)), some (vI v)]) (st' := [vI (100 : Int32), vI (0 : Int32), vI v]) (σ' := σ) fl4_ok [(32, .iload_n 1), (33, .iconst 0), (34, .bipush 100)] (by decide +kernel) rfl rfl ?_
      refine g_callSp [vI v, vI (0 : Int32), vI (100 : Int32)] [] sl_RX4_62 mi_X4_isIn (c_X4_isIn l v (0 : Int32) (100 : Int32)) rfl ⟨Nat.le_of_ble_eq_true rfl, Nat.le_of_ble_eq_true rfl⟩ rfl (Nat.le_of_ble_eq_true rfl) (by decide +kernel) ?_
      exact g_zret (by decide +kernel) (isInS_bit _ _ _) (by rw [setOkS, sw_in (by decide) hj]; exact ⟨rfl, rfl⟩)
    | 1, hj =>
      refine g_tabI (dflt := 64) (lo := 0) (hi := 3) (offs := #[31, 39, 47, 55]) (len := 31) (off := 39) (tgt := 40) (by decide +kernel) (by decide) (by decide) rfl (by decide) ?_
      refine g_blk (pc' := 44) (loc' := [some (vI (nI 1)), some (vI v)]) (st' := [vI (100 : Int32), vI (0 : Int32), vI v]) (σ' := σ) fl4_ok [(40, .iload_n 1), (41, .iconst 0), (42, .bipush 100)] (by decide +kernel) rfl rfl ?_
      refine g_callSp [vI v, vI (0 : Int32), vI (100 : Int32)] [] sl_RX4_62 mi_X4_isIn (c_X4_isIn l v (0 : Int32) (100 : Int32)) rfl ⟨Nat.le_of_ble_eq_true rfl, Nat.le_of_ble_eq_true rfl⟩ rfl (Nat.le_of_ble_eq_true rfl) (by decide +kernel) ?_
      exact g_zret (by decide +kernel) (isInS_bit _ _ _) (by rw [setOkS, sw_in (by decide) hj]; exact ⟨rfl, rfl⟩)
    | 2, hj =>
      refine g_tabI (dflt := 64) (lo := 0) (hi := 3) (offs := #[31, 39, 47, 55]) (len := 31) (off := 47) (tgt := 48) (by decide +kernel) (by decide) (by decide) rfl (by decide) ?_
      refine g_blk (pc' := 52) (loc' := [some (vI (nI 2)), some (vI v)]) (st' := [vI (6 : Int32), vI (2 : Int32), vI v]) (σ' := σ) fl4_ok [(48, .iload_n 1), (49, .iconst 2), (50, .bipush 6)] (by decide +kernel) rfl rfl ?_
      refine g_callSp [vI v, vI (2 : Int32), vI (6 : Int32)] [] sl_RX4_62 mi_X4_isIn (c_X4_isIn l v (2 : Int32) (6 : Int32)) rfl ⟨Nat.le_of_ble_eq_true rfl, Nat.le_of_ble_eq_true rfl⟩ rfl (Nat.le_of_ble_eq_true rfl) (by decide +kernel) ?_
      exact g_zret (by decide +kernel) (isInS_bit _ _ _) (by rw [setOkS, sw_in (by decide) hj]; exact ⟨rfl, rfl⟩)
    | 3, hj =>
      refine g_tabI (dflt := 64) (lo := 0) (hi := 3) (offs := #[31, 39, 47, 55]) (len := 31) (off := 55) (tgt := 56) (by decide +kernel) (by decide) (by decide) rfl (by decide) ?_
      refine g_blk (pc' := 61) (loc' := [some (vI (nI 3)), some (vI v)]) (st' := [vI (1000 : Int32), vI (1 : Int32), vI v]) (σ' := σ) fl4_ok [(56, .iload_n 1), (57, .iconst 1), (58, .sipush 1000)] (by decide +kernel) rfl rfl ?_
      refine g_callSp [vI v, vI (1 : Int32), vI (1000 : Int32)] [] sl_RX4_62 mi_X4_isIn (c_X4_isIn l v (1 : Int32) (1000 : Int32)) rfl ⟨Nat.le_of_ble_eq_true rfl, Nat.le_of_ble_eq_true rfl⟩ rfl (Nat.le_of_ble_eq_true rfl) (by decide +kernel) ?_
      exact g_zret (by decide +kernel) (isInS_bit _ _ _) (by rw [setOkS, sw_in (by decide) hj]; exact ⟨rfl, rfl⟩)
    | j + 4, hj => exact absurd hj (by omega)
set_option maxHeartbeats 2000000 in
theorem c_X4_resident (l : Launch) {σ : Sg} (hX : XOK σ) (w : Int32)  : Con l 4 yX4_resident cX4_resident 2 (some .int) [vR (7, 0, 0), vI w] σ (fun o σ' => o = some (vI (xresident (habs σ 0) (hist σ) (pv σ) w).1) ∧ XW (xresident (habs σ 0) (hist σ) (pv σ) w).2 σ σ') := by
  refine con_of pn_X4_resident (Nat.le_of_ble_eq_true rfl) (fun hPK hok => ?_)
  show G l (Rm 4) RX4 cX4_resident 2 (some .int) _ 0 [some (vR (7, 0, 0)), some (vI w)] [] σ
  obtain ⟨x0, x1, x2, x3, x4, x5, x6⟩ := id hX
  refine g_blk (pc' := 1) (loc' := [some (vR (7, 0, 0)), some (vI w)]) (st' := [vI w]) (σ' := σ) fl4_ok [(0, .iload_n 1)] (by decide +kernel) rfl rfl ?_
  refine g_callSp [vI w] [] sl_RX4_33 mi_X4_isWeight (c_X4_isWeight l w) rfl ⟨Nat.le_of_ble_eq_true rfl, Nat.le_of_ble_eq_true rfl⟩ rfl (Nat.le_of_ble_eq_true rfl) (by decide +kernel) ?_
  refine g_if_ne (off := 6) (tgt := 10) (by decide +kernel) (by decide) (fun zc4 => ?_) (fun zc4 => ?_)
  · refine g_blk (pc' := 17) (loc' := [some (vR (7, 0, 0)), some (vI w)]) (st' := [vR (0, 0, 0)]) (σ' := σ) fl4_ok [(10, .aload_n 0), (11, .getfield 10), (14, .getfield 37)] (by decide +kernel) rfl rfl ?_
    refine g_callVp (0, 0, 0) [] [] vl_RX4_41 mi_X3_isFull (ct_isFull l x0 0 (by decide)) rfl rfl rfl rfl ⟨Nat.le_of_ble_eq_true rfl, Nat.le_of_ble_eq_true rfl⟩ rfl (Nat.le_of_ble_eq_true rfl) (by decide +kernel) ?_
    refine g_if_eq (off := 6) (tgt := 26) (by decide +kernel) (by decide) (fun zc20 => ?_) (fun zc20 => ?_)
    · refine g_blk (pc' := 34) (loc' := [some (vR (7, 0, 0)), some (vI w)]) (st' := [vR (2, 0, 0), vR (3, 0, 0)]) (σ' := σ) fl4_ok [(26, .aload_n 0), (27, .getfield 22), (30, .aload_n 0), (31, .getfield 10)] (by decide +kernel) rfl rfl ?_
      refine g_callV (3, 0, 0) [vR (2, 0, 0)] [] vl_RX4_47 mi_X0_keep (c_X0_keep l x2 x0 x5.1) rfl rfl rfl rfl ⟨Nat.le_of_ble_eq_true rfl, Nat.le_of_ble_eq_true rfl⟩ rfl (Nat.le_of_ble_eq_true rfl) (by decide +kernel) (fun o σk hPk => ?_)
      obtain ⟨rfl, k1, k2, k3⟩ := hPk
      obtain ⟨hS0, hH0⟩ := k3.house (h := 0) (by decide)
      have hHk := hH0 x0
      refine g_blk (pc' := 42) (loc' := [some (vR (7, 0, 0)), some (vI w)]) (st' := [vI w, vR (2, 0, 0)]) (σ' := σk) fl4_ok [(37, .aload_n 0), (38, .getfield 10), (41, .iload_n 1)] (by decide +kernel) rfl rfl ?_
      refine g_callV (2, 0, 0) [vI w] [] vl_RX4_51 mi_X1_addResident (c_X1_addResident l w hHk (by rw [hS0]; exact full_lt zc20)) rfl rfl rfl rfl ⟨Nat.le_of_ble_eq_true rfl, Nat.le_of_ble_eq_true rfl⟩ rfl (Nat.le_of_ble_eq_true rfl) (by decide +kernel) (fun o σ1 hPσ1 => ?_)
      obtain ⟨rfl, hWσ1⟩ := hPσ1
      refine g_iret (by decide +kernel) ⟨?_, ?_⟩
      · rw [xresident, if_pos zc4, if_pos zc20]
        first | rfl | (rw [hWσ1.1, hS0]; done) | (rw [hWσ1.1, hS0]; rfl) | (rw [hS0]; done) | (rw [hS0]; rfl)
      · rw [xresident, if_pos zc4, if_pos zc20]
        exact x_mut hX k1 k2 k3 (by rw [hWσ1.1, hS0] <;> rfl) hWσ1.2.1 (hWσ1.2.2) (inv_same x5 rfl rfl)
    · refine g_blk (pc' := 25) (loc' := [some (vR (7, 0, 0)), some (vI w)]) (st' := [vI (-4 : Int32)]) (σ' := σ) fl4_ok [(23, .bipush (-4))] (by decide +kernel) rfl rfl ?_
      exact g_iret (by decide +kernel) ⟨by rw [xresident, if_pos zc4, if_neg zc20], by rw [xresident, if_pos zc4, if_neg zc20]; exact XW.rf hX⟩
  · refine g_blk (pc' := 9) (loc' := [some (vR (7, 0, 0)), some (vI w)]) (st' := [vI (-2 : Int32)]) (σ' := σ) fl4_ok [(7, .bipush (-2))] (by decide +kernel) rfl rfl ?_
    exact g_iret (by decide +kernel) ⟨by rw [xresident, if_neg (not_not_intro zc4)], by rw [xresident, if_neg (not_not_intro zc4)]; exact XW.rf hX⟩
set_option maxHeartbeats 2000000 in
theorem c_X4_weigh (l : Launch) {σ : Sg} (hX : XOK σ) (r w : Int32)  : Con l 4 yX4_weigh cX4_weigh 3 (some .int) [vR (7, 0, 0), vI r, vI w] σ (fun o σ' => o = some (vI (xweigh (habs σ 0) (hist σ) (pv σ) r w).1) ∧ XW (xweigh (habs σ 0) (hist σ) (pv σ) r w).2 σ σ') := by
  refine con_of pn_X4_weigh (Nat.le_of_ble_eq_true rfl) (fun hPK hok => ?_)
  show G l (Rm 4) RX4 cX4_weigh 3 (some .int) _ 0 [some (vR (7, 0, 0)), some (vI r), some (vI w)] [] σ
  obtain ⟨x0, x1, x2, x3, x4, x5, x6⟩ := id hX
  refine g_blk (pc' := 8) (loc' := [some (vR (7, 0, 0)), some (vI r), some (vI w)]) (st' := [vI r, vR (0, 0, 0)]) (σ' := σ) fl4_ok [(0, .aload_n 0), (1, .getfield 10), (4, .getfield 37), (7, .iload_n 1)] (by decide +kernel) rfl rfl ?_
  refine g_callVp (0, 0, 0) [vI r] [] vl_RX4_55 mi_X3_has (ct_has l x0 0 (by decide) r) rfl rfl rfl rfl ⟨Nat.le_of_ble_eq_true rfl, Nat.le_of_ble_eq_true rfl⟩ rfl (Nat.le_of_ble_eq_true rfl) (by decide +kernel) ?_
  refine g_if_ne (off := 5) (tgt := 16) (by decide +kernel) (by decide) (fun zc11 => ?_) (fun zc11 => ?_)
  · refine g_blk (pc' := 17) (loc' := [some (vR (7, 0, 0)), some (vI r), some (vI w)]) (st' := [vI w]) (σ' := σ) fl4_ok [(16, .iload_n 2)] (by decide +kernel) rfl rfl ?_
    refine g_callSp [vI w] [] sl_RX4_33 mi_X4_isWeight (c_X4_isWeight l w) rfl ⟨Nat.le_of_ble_eq_true rfl, Nat.le_of_ble_eq_true rfl⟩ rfl (Nat.le_of_ble_eq_true rfl) (by decide +kernel) ?_
    refine g_if_ne (off := 6) (tgt := 26) (by decide +kernel) (by decide) (fun zc20 => ?_) (fun zc20 => ?_)
    · refine g_blk (pc' := 34) (loc' := [some (vR (7, 0, 0)), some (vI r), some (vI w)]) (st' := [vR (2, 0, 0), vR (3, 0, 0)]) (σ' := σ) fl4_ok [(26, .aload_n 0), (27, .getfield 22), (30, .aload_n 0), (31, .getfield 10)] (by decide +kernel) rfl rfl ?_
      refine g_callV (3, 0, 0) [vR (2, 0, 0)] [] vl_RX4_47 mi_X0_keep (c_X0_keep l x2 x0 x5.1) rfl rfl rfl rfl ⟨Nat.le_of_ble_eq_true rfl, Nat.le_of_ble_eq_true rfl⟩ rfl (Nat.le_of_ble_eq_true rfl) (by decide +kernel) (fun o σk hPk => ?_)
      obtain ⟨rfl, k1, k2, k3⟩ := hPk
      obtain ⟨hS0, hH0⟩ := k3.house (h := 0) (by decide)
      have hHk := hH0 x0
      refine g_blk (pc' := 47) (loc' := [some (vR (7, 0, 0)), some (vI r), some (vI w)]) (st' := [vI w, vI (0 : Int32), vI r, vR (0, 0, 0)]) (σ' := σk) fl4_ok [(37, .aload_n 0), (38, .getfield 10), (41, .getfield 37), (44, .iload_n 1), (45, .iconst 0), (46, .iload_n 2)] (by decide +kernel) rfl rfl ?_
      refine g_callV (0, 0, 0) [vI r, vI (0 : Int32), vI w] [] vl_RX4_58 mi_X3_exchange (ct_exchange l hHk 0 (by decide) r (0 : Int32) w) rfl rfl rfl rfl ⟨Nat.le_of_ble_eq_true rfl, Nat.le_of_ble_eq_true rfl⟩ rfl (Nat.le_of_ble_eq_true rfl) (by decide +kernel) (fun o σ1 hPσ1 => ?_)
      obtain ⟨rfl, hWσ1⟩ := hPσ1
      refine g_iret (by decide +kernel) ⟨?_, ?_⟩
      · rw [xweigh, if_pos zc11, if_pos zc20]
        first | rfl | (rw [hWσ1.1, hS0]; done) | (rw [hWσ1.1, hS0]; rfl) | (rw [hS0]; done) | (rw [hS0]; rfl)
      · rw [xweigh, if_pos zc11, if_pos zc20]
        exact x_mut hX k1 k2 k3 (by rw [hWσ1.1, hS0] <;> rfl) hWσ1.2.1 (hWσ1.2.2) (inv_same x5 rfl rfl)
    · refine g_blk (pc' := 25) (loc' := [some (vR (7, 0, 0)), some (vI r), some (vI w)]) (st' := [vI (-2 : Int32)]) (σ' := σ) fl4_ok [(23, .bipush (-2))] (by decide +kernel) rfl rfl ?_
      exact g_iret (by decide +kernel) ⟨by rw [xweigh, if_pos zc11, if_neg (not_not_intro zc20)], by rw [xweigh, if_pos zc11, if_neg (not_not_intro zc20)]; exact XW.rf hX⟩
  · refine g_blk (pc' := 15) (loc' := [some (vR (7, 0, 0)), some (vI r), some (vI w)]) (st' := [vI (-1 : Int32)]) (σ' := σ) fl4_ok [(14, .iconst (-1))] (by decide +kernel) rfl rfl ?_
    exact g_iret (by decide +kernel) ⟨by rw [xweigh, if_neg (not_not_intro zc11)], by rw [xweigh, if_neg (not_not_intro zc11)]; exact XW.rf hX⟩
set_option maxHeartbeats 2000000 in
theorem c_X4_away (l : Launch) {σ : Sg} (hX : XOK σ) (r f t : Int32)  : Con l 4 yX4_away cX4_away 4 (some .int) [vR (7, 0, 0), vI r, vI f, vI t] σ (fun o σ' => o = some (vI (xaway (habs σ 0) (hist σ) (pv σ) r f t).1) ∧ XW (xaway (habs σ 0) (hist σ) (pv σ) r f t).2 σ σ') := by
  refine con_of pn_X4_away (Nat.le_of_ble_eq_true rfl) (fun hPK hok => ?_)
  show G l (Rm 4) RX4 cX4_away 4 (some .int) _ 0 [some (vR (7, 0, 0)), some (vI r), some (vI f), some (vI t)] [] σ
  obtain ⟨x0, x1, x2, x3, x4, x5, x6⟩ := id hX
  refine g_blk (pc' := 8) (loc' := [some (vR (7, 0, 0)), some (vI r), some (vI f), some (vI t)]) (st' := [vI r, vR (0, 0, 0)]) (σ' := σ) fl4_ok [(0, .aload_n 0), (1, .getfield 10), (4, .getfield 37), (7, .iload_n 1)] (by decide +kernel) rfl rfl ?_
  refine g_callVp (0, 0, 0) [vI r] [] vl_RX4_55 mi_X3_has (ct_has l x0 0 (by decide) r) rfl rfl rfl rfl ⟨Nat.le_of_ble_eq_true rfl, Nat.le_of_ble_eq_true rfl⟩ rfl (Nat.le_of_ble_eq_true rfl) (by decide +kernel) ?_
  refine g_if_ne (off := 5) (tgt := 16) (by decide +kernel) (by decide) (fun zc11 => ?_) (fun zc11 => ?_)
  · refine g_blk (pc' := 21) (loc' := [some (vR (7, 0, 0)), some (vI r), some (vI f), some (vI t)]) (st' := [vI (999 : Int32), vI (0 : Int32), vI f]) (σ' := σ) fl4_ok [(16, .iload_n 2), (17, .iconst 0), (18, .sipush 999)] (by decide +kernel) rfl rfl ?_
    refine g_callSp [vI f, vI (0 : Int32), vI (999 : Int32)] [] sl_RX4_62 mi_X4_isIn (c_X4_isIn l f (0 : Int32) (999 : Int32)) rfl ⟨Nat.le_of_ble_eq_true rfl, Nat.le_of_ble_eq_true rfl⟩ rfl (Nat.le_of_ble_eq_true rfl) (by decide +kernel) ?_
    refine g_if_eq (off := 14) (tgt := 38) (by decide +kernel) (by decide) (fun zc24 => ?_) (fun zc24 => ?_)
    · refine g_blk (pc' := 40) (loc' := [some (vR (7, 0, 0)), some (vI r), some (vI f), some (vI t)]) (st' := [vI (-2 : Int32)]) (σ' := σ) fl4_ok [(38, .bipush (-2))] (by decide +kernel) rfl rfl ?_
      exact g_iret (by decide +kernel) ⟨by rw [xaway, if_pos zc11, if_pos zc24], by rw [xaway, if_pos zc11, if_pos zc24]; exact XW.rf hX⟩
    · refine g_blk (pc' := 32) (loc' := [some (vR (7, 0, 0)), some (vI r), some (vI f), some (vI t)]) (st' := [vI (999 : Int32), vI f, vI t]) (σ' := σ) fl4_ok [(27, .iload_n 3), (28, .iload_n 2), (29, .sipush 999)] (by decide +kernel) rfl rfl ?_
      refine g_callSp [vI t, vI f, vI (999 : Int32)] [] sl_RX4_62 mi_X4_isIn (c_X4_isIn l t f (999 : Int32)) rfl ⟨Nat.le_of_ble_eq_true rfl, Nat.le_of_ble_eq_true rfl⟩ rfl (Nat.le_of_ble_eq_true rfl) (by decide +kernel) ?_
      refine g_if_ne (off := 6) (tgt := 41) (by decide +kernel) (by decide) (fun zc35 => ?_) (fun zc35 => ?_)
      · refine g_blk (pc' := 49) (loc' := [some (vR (7, 0, 0)), some (vI r), some (vI f), some (vI t)]) (st' := [vR (2, 0, 0), vR (3, 0, 0)]) (σ' := σ) fl4_ok [(41, .aload_n 0), (42, .getfield 22), (45, .aload_n 0), (46, .getfield 10)] (by decide +kernel) rfl rfl ?_
        refine g_callV (3, 0, 0) [vR (2, 0, 0)] [] vl_RX4_47 mi_X0_keep (c_X0_keep l x2 x0 x5.1) rfl rfl rfl rfl ⟨Nat.le_of_ble_eq_true rfl, Nat.le_of_ble_eq_true rfl⟩ rfl (Nat.le_of_ble_eq_true rfl) (by decide +kernel) (fun o σk hPk => ?_)
        obtain ⟨rfl, k1, k2, k3⟩ := hPk
        obtain ⟨hS0, hH0⟩ := k3.house (h := 0) (by decide)
        have hHk := hH0 x0
        refine g_blk (pc' := 62) (loc' := [some (vR (7, 0, 0)), some (vI r), some (vI f), some (vI t)]) (st' := [vI f, vI (1 : Int32), vI r, vR (0, 0, 0)]) (σ' := σk) fl4_ok [(52, .aload_n 0), (53, .getfield 10), (56, .getfield 37), (59, .iload_n 1), (60, .iconst 1), (61, .iload_n 2)] (by decide +kernel) rfl rfl ?_
        refine g_callV (0, 0, 0) [vI r, vI (1 : Int32), vI f] [] vl_RX4_66 mi_X3_write (ct_write l hHk 0 (by decide) r (1 : Int32) f) rfl rfl rfl rfl ⟨Nat.le_of_ble_eq_true rfl, Nat.le_of_ble_eq_true rfl⟩ rfl (Nat.le_of_ble_eq_true rfl) (by decide +kernel) (fun o σ1 hPσ1 => ?_)
        obtain ⟨rfl, hWσ1⟩ := hPσ1
        refine g_blk (pc' := 75) (loc' := [some (vR (7, 0, 0)), some (vI r), some (vI f), some (vI t)]) (st' := [vI t, vI (2 : Int32), vI r, vR (0, 0, 0)]) (σ' := σ1) fl4_ok [(65, .aload_n 0), (66, .getfield 10), (69, .getfield 37), (72, .iload_n 1), (73, .iconst 2), (74, .iload_n 3)] (by decide +kernel) rfl rfl ?_
        refine g_callV (0, 0, 0) [vI r, vI (2 : Int32), vI t] [] vl_RX4_66 mi_X3_write (ct_write l hWσ1.2.1 0 (by decide) r (2 : Int32) t) rfl rfl rfl rfl ⟨Nat.le_of_ble_eq_true rfl, Nat.le_of_ble_eq_true rfl⟩ rfl (Nat.le_of_ble_eq_true rfl) (by decide +kernel) (fun o σ2 hPσ2 => ?_)
        obtain ⟨rfl, hWσ2⟩ := hPσ2
        refine g_blk (pc' := 83) (loc' := [some (vR (7, 0, 0)), some (vI r), some (vI f), some (vI t)]) (st' := [vI r, vR (2, 0, 0)]) (σ' := σ2) fl4_ok [(78, .aload_n 0), (79, .getfield 10), (82, .iload_n 1)] (by decide +kernel) rfl rfl ?_
        refine g_callVp (2, 0, 0) [vI r] [] vl_RX4_70 mi_X1_isAway (c_X1_isAway l hWσ2.2.1 r) rfl rfl rfl rfl ⟨Nat.le_of_ble_eq_true rfl, Nat.le_of_ble_eq_true rfl⟩ rfl (Nat.le_of_ble_eq_true rfl) (by decide +kernel) ?_
        refine g_callSp [vI (awayS (habs σ2 0) r)] [] sl_RX4_73 mi_X4_bit (c_X4_bit l (awayS (habs σ2 0) r)) rfl ⟨Nat.le_of_ble_eq_true rfl, Nat.le_of_ble_eq_true rfl⟩ rfl (Nat.le_of_ble_eq_true rfl) (by decide +kernel) ?_
        refine g_iret (by decide +kernel) ⟨?_, ?_⟩
        · rw [xaway, if_pos zc11, if_neg zc24, if_pos zc35]
          first | rfl | (rw [hWσ2.1, hWσ1.1, hS0]; done) | (rw [hWσ2.1, hWσ1.1, hS0]; rfl) | (rw [hS0]; done) | (rw [hS0]; rfl)
        · rw [xaway, if_pos zc11, if_neg zc24, if_pos zc35]
          exact x_mut hX k1 k2 k3 (by rw [hWσ2.1, hWσ1.1, hS0] <;> rfl) hWσ2.2.1 ((hWσ1.2.2).tr hWσ2.2.2) (inv_same x5 rfl rfl)
      · refine g_blk (pc' := 40) (loc' := [some (vR (7, 0, 0)), some (vI r), some (vI f), some (vI t)]) (st' := [vI (-2 : Int32)]) (σ' := σ) fl4_ok [(38, .bipush (-2))] (by decide +kernel) rfl rfl ?_
        exact g_iret (by decide +kernel) ⟨by rw [xaway, if_pos zc11, if_neg zc24, if_neg (not_not_intro zc35)], by rw [xaway, if_pos zc11, if_neg zc24, if_neg (not_not_intro zc35)]; exact XW.rf hX⟩
  · refine g_blk (pc' := 15) (loc' := [some (vR (7, 0, 0)), some (vI r), some (vI f), some (vI t)]) (st' := [vI (-1 : Int32)]) (σ' := σ) fl4_ok [(14, .iconst (-1))] (by decide +kernel) rfl rfl ?_
    exact g_iret (by decide +kernel) ⟨by rw [xaway, if_neg (not_not_intro zc11)], by rw [xaway, if_neg (not_not_intro zc11)]; exact XW.rf hX⟩
set_option maxHeartbeats 2000000 in
theorem c_X4_area (l : Launch) {σ : Sg} (hX : XOK σ) (e p g : Int32)  : Con l 4 yX4_area cX4_area 4 (some .int) [vR (7, 0, 0), vI e, vI p, vI g] σ (fun o σ' => o = some (vI (xarea (habs σ 0) (hist σ) (pv σ) e p g).1) ∧ XW (xarea (habs σ 0) (hist σ) (pv σ) e p g).2 σ σ') := by
  refine con_of pn_X4_area (Nat.le_of_ble_eq_true rfl) (fun hPK hok => ?_)
  show G l (Rm 4) RX4 cX4_area 4 (some .int) _ 0 [some (vR (7, 0, 0)), some (vI e), some (vI p), some (vI g)] [] σ
  obtain ⟨x0, x1, x2, x3, x4, x5, x6⟩ := id hX
  refine g_blk (pc' := 4) (loc' := [some (vR (7, 0, 0)), some (vI e), some (vI p), some (vI g)]) (st' := [vI (20 : Int32), vI (1 : Int32), vI e]) (σ' := σ) fl4_ok [(0, .iload_n 1), (1, .iconst 1), (2, .bipush 20)] (by decide +kernel) rfl rfl ?_
  refine g_callSp [vI e, vI (1 : Int32), vI (20 : Int32)] [] sl_RX4_62 mi_X4_isIn (c_X4_isIn l e (1 : Int32) (20 : Int32)) rfl ⟨Nat.le_of_ble_eq_true rfl, Nat.le_of_ble_eq_true rfl⟩ rfl (Nat.le_of_ble_eq_true rfl) (by decide +kernel) ?_
  refine g_if_eq (off := 23) (tgt := 30) (by decide +kernel) (by decide) (fun zc7 => ?_) (fun zc7 => ?_)
  · refine g_blk (pc' := 32) (loc' := [some (vR (7, 0, 0)), some (vI e), some (vI p), some (vI g)]) (st' := [vI (-2 : Int32)]) (σ' := σ) fl4_ok [(30, .bipush (-2))] (by decide +kernel) rfl rfl ?_
    exact g_iret (by decide +kernel) ⟨by rw [xarea, if_pos zc7], by rw [xarea, if_pos zc7]; exact XW.rf hX⟩
  · refine g_blk (pc' := 13) (loc' := [some (vR (7, 0, 0)), some (vI e), some (vI p), some (vI g)]) (st' := [vI (4 : Int32), vI (1 : Int32), vI p]) (σ' := σ) fl4_ok [(10, .iload_n 2), (11, .iconst 1), (12, .iconst 4)] (by decide +kernel) rfl rfl ?_
    refine g_callSp [vI p, vI (1 : Int32), vI (4 : Int32)] [] sl_RX4_62 mi_X4_isIn (c_X4_isIn l p (1 : Int32) (4 : Int32)) rfl ⟨Nat.le_of_ble_eq_true rfl, Nat.le_of_ble_eq_true rfl⟩ rfl (Nat.le_of_ble_eq_true rfl) (by decide +kernel) ?_
    refine g_if_eq (off := 14) (tgt := 30) (by decide +kernel) (by decide) (fun zc16 => ?_) (fun zc16 => ?_)
    · refine g_blk (pc' := 32) (loc' := [some (vR (7, 0, 0)), some (vI e), some (vI p), some (vI g)]) (st' := [vI (-2 : Int32)]) (σ' := σ) fl4_ok [(30, .bipush (-2))] (by decide +kernel) rfl rfl ?_
      exact g_iret (by decide +kernel) ⟨by rw [xarea, if_neg zc7, if_pos zc16], by rw [xarea, if_neg zc7, if_pos zc16]; exact XW.rf hX⟩
    · refine g_blk (pc' := 24) (loc' := [some (vR (7, 0, 0)), some (vI e), some (vI p), some (vI g)]) (st' := [vI (200 : Int32), vI (0 : Int32), vI g]) (σ' := σ) fl4_ok [(19, .iload_n 3), (20, .iconst 0), (21, .sipush 200)] (by decide +kernel) rfl rfl ?_
      refine g_callSp [vI g, vI (0 : Int32), vI (200 : Int32)] [] sl_RX4_62 mi_X4_isIn (c_X4_isIn l g (0 : Int32) (200 : Int32)) rfl ⟨Nat.le_of_ble_eq_true rfl, Nat.le_of_ble_eq_true rfl⟩ rfl (Nat.le_of_ble_eq_true rfl) (by decide +kernel) ?_
      refine g_if_ne (off := 6) (tgt := 33) (by decide +kernel) (by decide) (fun zc27 => ?_) (fun zc27 => ?_)
      · refine g_blk (pc' := 40) (loc' := [some (vR (7, 0, 0)), some (vI e), some (vI p), some (vI g)]) (st' := [vR (0, 1, 0)]) (σ' := σ) fl4_ok [(33, .aload_n 0), (34, .getfield 10), (37, .getfield 77)] (by decide +kernel) rfl rfl ?_
        refine g_callVp (0, 1, 0) [] [] vl_RX4_41 mi_X3_isFull (ct_isFull l x0 1 (by decide)) rfl rfl rfl rfl ⟨Nat.le_of_ble_eq_true rfl, Nat.le_of_ble_eq_true rfl⟩ rfl (Nat.le_of_ble_eq_true rfl) (by decide +kernel) ?_
        refine g_if_eq (off := 6) (tgt := 49) (by decide +kernel) (by decide) (fun zc43 => ?_) (fun zc43 => ?_)
        · refine g_blk (pc' := 57) (loc' := [some (vR (7, 0, 0)), some (vI e), some (vI p), some (vI g)]) (st' := [vR (2, 0, 0), vR (3, 0, 0)]) (σ' := σ) fl4_ok [(49, .aload_n 0), (50, .getfield 22), (53, .aload_n 0), (54, .getfield 10)] (by decide +kernel) rfl rfl ?_
          refine g_callV (3, 0, 0) [vR (2, 0, 0)] [] vl_RX4_47 mi_X0_keep (c_X0_keep l x2 x0 x5.1) rfl rfl rfl rfl ⟨Nat.le_of_ble_eq_true rfl, Nat.le_of_ble_eq_true rfl⟩ rfl (Nat.le_of_ble_eq_true rfl) (by decide +kernel) (fun o σk hPk => ?_)
          obtain ⟨rfl, k1, k2, k3⟩ := hPk
          obtain ⟨hS0, hH0⟩ := k3.house (h := 0) (by decide)
          have hHk := hH0 x0
          refine g_blk (pc' := 67) (loc' := [some (vR (7, 0, 0)), some (vI e), some (vI p), some (vI g)]) (st' := [vI g, vI p, vI e, vR (2, 0, 0)]) (σ' := σk) fl4_ok [(60, .aload_n 0), (61, .getfield 10), (64, .iload_n 1), (65, .iload_n 2), (66, .iload_n 3)] (by decide +kernel) rfl rfl ?_
          refine g_callV (2, 0, 0) [vI e, vI p, vI g] [] vl_RX4_80 mi_X1_addArea (c_X1_addArea l e p g hHk (by rw [hS0]; exact full_lt zc43)) rfl rfl rfl rfl ⟨Nat.le_of_ble_eq_true rfl, Nat.le_of_ble_eq_true rfl⟩ rfl (Nat.le_of_ble_eq_true rfl) (by decide +kernel) (fun o σ1 hPσ1 => ?_)
          obtain ⟨rfl, hWσ1⟩ := hPσ1
          refine g_iret (by decide +kernel) ⟨?_, ?_⟩
          · rw [xarea, if_neg zc7, if_neg zc16, if_pos zc27, if_pos zc43]
            first | rfl | (rw [hWσ1.1, hS0]; done) | (rw [hWσ1.1, hS0]; rfl) | (rw [hS0]; done) | (rw [hS0]; rfl)
          · rw [xarea, if_neg zc7, if_neg zc16, if_pos zc27, if_pos zc43]
            exact x_mut hX k1 k2 k3 (by rw [hWσ1.1, hS0] <;> rfl) hWσ1.2.1 (hWσ1.2.2) (inv_same x5 rfl rfl)
        · refine g_blk (pc' := 48) (loc' := [some (vR (7, 0, 0)), some (vI e), some (vI p), some (vI g)]) (st' := [vI (-4 : Int32)]) (σ' := σ) fl4_ok [(46, .bipush (-4))] (by decide +kernel) rfl rfl ?_
          exact g_iret (by decide +kernel) ⟨by rw [xarea, if_neg zc7, if_neg zc16, if_pos zc27, if_neg zc43], by rw [xarea, if_neg zc7, if_neg zc16, if_pos zc27, if_neg zc43]; exact XW.rf hX⟩
      · refine g_blk (pc' := 32) (loc' := [some (vR (7, 0, 0)), some (vI e), some (vI p), some (vI g)]) (st' := [vI (-2 : Int32)]) (σ' := σ) fl4_ok [(30, .bipush (-2))] (by decide +kernel) rfl rfl ?_
        exact g_iret (by decide +kernel) ⟨by rw [xarea, if_neg zc7, if_neg zc16, if_neg (not_not_intro zc27)], by rw [xarea, if_neg zc7, if_neg zc16, if_neg (not_not_intro zc27)]; exact XW.rf hX⟩
set_option maxHeartbeats 2000000 in
theorem c_X4_set (l : Launch) {σ : Sg} (hX : XOK σ) (s v : Int32)  : Con l 4 yX4_set cX4_set 3 (some .int) [vR (7, 0, 0), vI s, vI v] σ (fun o σ' => o = some (vI (xset (habs σ 0) (hist σ) (pv σ) s v).1) ∧ XW (xset (habs σ 0) (hist σ) (pv σ) s v).2 σ σ') := by
  refine con_of pn_X4_set (Nat.le_of_ble_eq_true rfl) (fun hPK hok => ?_)
  show G l (Rm 4) RX4 cX4_set 3 (some .int) _ 0 [some (vR (7, 0, 0)), some (vI s), some (vI v)] [] σ
  obtain ⟨x0, x1, x2, x3, x4, x5, x6⟩ := id hX
  refine g_blk (pc' := 2) (loc' := [some (vR (7, 0, 0)), some (vI s), some (vI v)]) (st' := [vI v, vI s]) (σ' := σ) fl4_ok [(0, .iload_n 1), (1, .iload_n 2)] (by decide +kernel) rfl rfl ?_
  refine g_callSp [vI s, vI v] [] sl_RX4_83 mi_X4_isSettingValue (c_X4_isSettingValue l s v) rfl ⟨Nat.le_of_ble_eq_true rfl, Nat.le_of_ble_eq_true rfl⟩ rfl (Nat.le_of_ble_eq_true rfl) (by decide +kernel) ?_
  refine g_if_ne (off := 6) (tgt := 11) (by decide +kernel) (by decide) (fun zc5 => ?_) (fun zc5 => ?_)
  · refine g_blk (pc' := 19) (loc' := [some (vR (7, 0, 0)), some (vI s), some (vI v)]) (st' := [vR (2, 0, 0), vR (3, 0, 0)]) (σ' := σ) fl4_ok [(11, .aload_n 0), (12, .getfield 22), (15, .aload_n 0), (16, .getfield 10)] (by decide +kernel) rfl rfl ?_
    refine g_callV (3, 0, 0) [vR (2, 0, 0)] [] vl_RX4_47 mi_X0_keep (c_X0_keep l x2 x0 x5.1) rfl rfl rfl rfl ⟨Nat.le_of_ble_eq_true rfl, Nat.le_of_ble_eq_true rfl⟩ rfl (Nat.le_of_ble_eq_true rfl) (by decide +kernel) (fun o σk hPk => ?_)
    obtain ⟨rfl, k1, k2, k3⟩ := hPk
    obtain ⟨hS0, hH0⟩ := k3.house (h := 0) (by decide)
    have hHk := hH0 x0
    refine g_blk (pc' := 32) (loc' := [some (vR (7, 0, 0)), some (vI s), some (vI v)]) (st' := [vI v, vI s, vI (0 : Int32), vR (0, 4, 0)]) (σ' := σk) fl4_ok [(22, .aload_n 0), (23, .getfield 10), (26, .getfield 87), (29, .iconst 0), (30, .iload_n 1), (31, .iload_n 2)] (by decide +kernel) rfl rfl ?_
    refine g_callV (0, 4, 0) [vI (0 : Int32), vI s, vI v] [] vl_RX4_58 mi_X3_exchange (ct_exchange l hHk 4 (by decide) (0 : Int32) s v) rfl rfl rfl rfl ⟨Nat.le_of_ble_eq_true rfl, Nat.le_of_ble_eq_true rfl⟩ rfl (Nat.le_of_ble_eq_true rfl) (by decide +kernel) (fun o σ1 hPσ1 => ?_)
    obtain ⟨rfl, hWσ1⟩ := hPσ1
    refine g_iret (by decide +kernel) ⟨?_, ?_⟩
    · rw [xset, if_pos zc5]
      first | rfl | (rw [hWσ1.1, hS0]; done) | (rw [hWσ1.1, hS0]; rfl) | (rw [hS0]; done) | (rw [hS0]; rfl)
    · rw [xset, if_pos zc5]
      exact x_mut hX k1 k2 k3 (by rw [hWσ1.1, hS0] <;> rfl) hWσ1.2.1 (hWσ1.2.2) (inv_same x5 rfl rfl)
  · refine g_blk (pc' := 10) (loc' := [some (vR (7, 0, 0)), some (vI s), some (vI v)]) (st' := [vI (-2 : Int32)]) (σ' := σ) fl4_ok [(8, .bipush (-2))] (by decide +kernel) rfl rfl ?_
    exact g_iret (by decide +kernel) ⟨by rw [xset, if_neg (not_not_intro zc5)], by rw [xset, if_neg (not_not_intro zc5)]; exact XW.rf hX⟩
set_option maxHeartbeats 2000000 in
theorem c_X4_plan (l : Launch) {σ : Sg} (hX : XOK σ)  : Con l 6 yX4_plan cX4_plan 1 (some .int) [vR (7, 0, 0)] σ (fun o σ' => o = some (vI (xplan (habs σ 0) (hist σ) (pv σ)).1) ∧ XW (xplan (habs σ 0) (hist σ) (pv σ)).2 σ σ') := by
  refine con_of pn_X4_plan (Nat.le_of_ble_eq_true rfl) (fun hPK hok => ?_)
  show G l (Rm 6) RX4 cX4_plan 1 (some .int) _ 0 [some (vR (7, 0, 0))] [] σ
  obtain ⟨x0, x1, x2, x3, x4, x5, x6⟩ := id hX
  refine g_blk (pc' := 7) (loc' := [some (vR (7, 0, 0))]) (st' := [vI ((habs σ 0).2 6)]) (σ' := σ) fl4_ok [(0, .aload_n 0), (1, .getfield 10), (4, .getfield 90)] (by decide +kernel) rfl rfl ?_
  refine g_if_eq (off := 6) (tgt := 13) (by decide +kernel) (by decide) (fun zc7 => ?_) (fun zc7 => ?_)
  · refine g_blk (pc' := 21) (loc' := [some (vR (7, 0, 0))]) (st' := [vR (2, 0, 0), vR (3, 0, 0)]) (σ' := σ) fl4_ok [(13, .aload_n 0), (14, .getfield 22), (17, .aload_n 0), (18, .getfield 10)] (by decide +kernel) rfl rfl ?_
    refine g_callV (3, 0, 0) [vR (2, 0, 0)] [] vl_RX4_47 mi_X0_keep (c_X0_keep l x2 x0 x5.1) rfl rfl rfl rfl ⟨Nat.le_of_ble_eq_true rfl, Nat.le_of_ble_eq_true rfl⟩ rfl (Nat.le_of_ble_eq_true rfl) (by decide +kernel) (fun o σk hPk => ?_)
    obtain ⟨rfl, k1, k2, k3⟩ := hPk
    obtain ⟨hS0, hH0⟩ := k3.house (h := 0) (by decide)
    have hHk := hH0 x0
    refine g_blk (pc' := 28) (loc' := [some (vR (7, 0, 0))]) (st' := [vR (2, 0, 0)]) (σ' := σk) fl4_ok [(24, .aload_n 0), (25, .getfield 10)] (by decide +kernel) rfl rfl ?_
    refine g_callV (2, 0, 0) [] [] vl_RX4_94 mi_X1_planWeek (c_X1_planWeek l hHk (by rw [hS0]; exact x5.2 zc7)) rfl rfl rfl rfl ⟨Nat.le_of_ble_eq_true rfl, Nat.le_of_ble_eq_true rfl⟩ rfl (Nat.le_of_ble_eq_true rfl) (by decide +kernel) (fun o σ1 hPσ1 => ?_)
    obtain ⟨rfl, hWσ1⟩ := hPσ1
    refine g_iret (by decide +kernel) ⟨?_, ?_⟩
    · rw [xplan, if_pos zc7]
      first | rfl | (rw [hWσ1.1, hS0]; done) | (rw [hWσ1.1, hS0]; rfl) | (rw [hS0]; done) | (rw [hS0]; rfl)
    · rw [xplan, if_pos zc7]
      exact x_mut hX k1 k2 k3 (by rw [hWσ1.1, hS0] <;> rfl) hWσ1.2.1 (hWσ1.2.2) (inv_plan _)
  · refine g_blk (pc' := 12) (loc' := [some (vR (7, 0, 0))]) (st' := [vI (-5 : Int32)]) (σ' := σ) fl4_ok [(10, .bipush (-5))] (by decide +kernel) rfl rfl ?_
    exact g_iret (by decide +kernel) ⟨by rw [xplan, if_neg zc7], by rw [xplan, if_neg zc7]; exact XW.rf hX⟩
set_option maxHeartbeats 2000000 in
theorem c_X4_done (l : Launch) {σ : Sg} (hX : XOK σ) (t : Int32)  : Con l 4 yX4_done cX4_done 2 (some .int) [vR (7, 0, 0), vI t] σ (fun o σ' => o = some (vI (xdone (habs σ 0) (hist σ) (pv σ) t).1) ∧ XW (xdone (habs σ 0) (hist σ) (pv σ) t).2 σ σ') := by
  refine con_of pn_X4_done (Nat.le_of_ble_eq_true rfl) (fun hPK hok => ?_)
  show G l (Rm 4) RX4 cX4_done 2 (some .int) _ 0 [some (vR (7, 0, 0)), some (vI t)] [] σ
  obtain ⟨x0, x1, x2, x3, x4, x5, x6⟩ := id hX
  refine g_blk (pc' := 8) (loc' := [some (vR (7, 0, 0)), some (vI t)]) (st' := [vI t, vR (0, 2, 0)]) (σ' := σ) fl4_ok [(0, .aload_n 0), (1, .getfield 10), (4, .getfield 98), (7, .iload_n 1)] (by decide +kernel) rfl rfl ?_
  refine g_callVp (0, 2, 0) [vI t] [] vl_RX4_55 mi_X3_has (ct_has l x0 2 (by decide) t) rfl rfl rfl rfl ⟨Nat.le_of_ble_eq_true rfl, Nat.le_of_ble_eq_true rfl⟩ rfl (Nat.le_of_ble_eq_true rfl) (by decide +kernel) ?_
  refine g_if_ne (off := 5) (tgt := 16) (by decide +kernel) (by decide) (fun zc11 => ?_) (fun zc11 => ?_)
  · refine g_blk (pc' := 21) (loc' := [some (vR (7, 0, 0)), some (vI t)]) (st' := [vI t, vR (2, 0, 0)]) (σ' := σ) fl4_ok [(16, .aload_n 0), (17, .getfield 10), (20, .iload_n 1)] (by decide +kernel) rfl rfl ?_
    refine g_callVp (2, 0, 0) [vI t] [] vl_RX4_101 mi_X1_isOpen (c_X1_isOpen l x0 t) rfl rfl rfl rfl ⟨Nat.le_of_ble_eq_true rfl, Nat.le_of_ble_eq_true rfl⟩ rfl (Nat.le_of_ble_eq_true rfl) (by decide +kernel) ?_
    refine g_if_ne (off := 6) (tgt := 30) (by decide +kernel) (by decide) (fun zc24 => ?_) (fun zc24 => ?_)
    · refine g_blk (pc' := 38) (loc' := [some (vR (7, 0, 0)), some (vI t)]) (st' := [vR (2, 0, 0), vR (3, 0, 0)]) (σ' := σ) fl4_ok [(30, .aload_n 0), (31, .getfield 22), (34, .aload_n 0), (35, .getfield 10)] (by decide +kernel) rfl rfl ?_
      refine g_callV (3, 0, 0) [vR (2, 0, 0)] [] vl_RX4_47 mi_X0_keep (c_X0_keep l x2 x0 x5.1) rfl rfl rfl rfl ⟨Nat.le_of_ble_eq_true rfl, Nat.le_of_ble_eq_true rfl⟩ rfl (Nat.le_of_ble_eq_true rfl) (by decide +kernel) (fun o σk hPk => ?_)
      obtain ⟨rfl, k1, k2, k3⟩ := hPk
      obtain ⟨hS0, hH0⟩ := k3.house (h := 0) (by decide)
      have hHk := hH0 x0
      refine g_blk (pc' := 46) (loc' := [some (vR (7, 0, 0)), some (vI t)]) (st' := [vI t, vR (2, 0, 0)]) (σ' := σk) fl4_ok [(41, .aload_n 0), (42, .getfield 10), (45, .iload_n 1)] (by decide +kernel) rfl rfl ?_
      refine g_callV (2, 0, 0) [vI t] [] vl_RX4_104 mi_X1_finish (c_X1_finish l t hHk) rfl rfl rfl rfl ⟨Nat.le_of_ble_eq_true rfl, Nat.le_of_ble_eq_true rfl⟩ rfl (Nat.le_of_ble_eq_true rfl) (by decide +kernel) (fun o σ1 hPσ1 => ?_)
      obtain ⟨rfl, hWσ1⟩ := hPσ1
      refine g_iret (by decide +kernel) ⟨?_, ?_⟩
      · rw [xdone, if_pos zc11, if_pos zc24]
        first | rfl | (rw [hWσ1.1, hS0]; done) | (rw [hWσ1.1, hS0]; rfl) | (rw [hS0]; done) | (rw [hS0]; rfl)
      · rw [xdone, if_pos zc11, if_pos zc24]
        exact x_mut hX k1 k2 k3 (by rw [hWσ1.1, hS0] <;> rfl) hWσ1.2.1 (hWσ1.2.2) (inv_fin x5 t)
    · refine g_blk (pc' := 29) (loc' := [some (vR (7, 0, 0)), some (vI t)]) (st' := [vI (-5 : Int32)]) (σ' := σ) fl4_ok [(27, .bipush (-5))] (by decide +kernel) rfl rfl ?_
      exact g_iret (by decide +kernel) ⟨by rw [xdone, if_pos zc11, if_neg (not_not_intro zc24)], by rw [xdone, if_pos zc11, if_neg (not_not_intro zc24)]; exact XW.rf hX⟩
  · refine g_blk (pc' := 15) (loc' := [some (vR (7, 0, 0)), some (vI t)]) (st' := [vI (-1 : Int32)]) (σ' := σ) fl4_ok [(14, .iconst (-1))] (by decide +kernel) rfl rfl ?_
    exact g_iret (by decide +kernel) ⟨by rw [xdone, if_neg (not_not_intro zc11)], by rw [xdone, if_neg (not_not_intro zc11)]; exact XW.rf hX⟩
set_option maxHeartbeats 2000000 in
theorem c_X4_extra (l : Launch) {σ : Sg} (hX : XOK σ) (r a : Int32)  : Con l 4 yX4_extra cX4_extra 3 (some .int) [vR (7, 0, 0), vI r, vI a] σ (fun o σ' => o = some (vI (xextra (habs σ 0) (hist σ) (pv σ) r a).1) ∧ XW (xextra (habs σ 0) (hist σ) (pv σ) r a).2 σ σ') := by
  refine con_of pn_X4_extra (Nat.le_of_ble_eq_true rfl) (fun hPK hok => ?_)
  show G l (Rm 4) RX4 cX4_extra 3 (some .int) _ 0 [some (vR (7, 0, 0)), some (vI r), some (vI a)] [] σ
  obtain ⟨x0, x1, x2, x3, x4, x5, x6⟩ := id hX
  refine g_blk (pc' := 8) (loc' := [some (vR (7, 0, 0)), some (vI r), some (vI a)]) (st' := [vI r, vR (0, 0, 0)]) (σ' := σ) fl4_ok [(0, .aload_n 0), (1, .getfield 10), (4, .getfield 37), (7, .iload_n 1)] (by decide +kernel) rfl rfl ?_
  refine g_callVp (0, 0, 0) [vI r] [] vl_RX4_55 mi_X3_has (ct_has l x0 0 (by decide) r) rfl rfl rfl rfl ⟨Nat.le_of_ble_eq_true rfl, Nat.le_of_ble_eq_true rfl⟩ rfl (Nat.le_of_ble_eq_true rfl) (by decide +kernel) ?_
  refine g_if_eq (off := 17) (tgt := 28) (by decide +kernel) (by decide) (fun zc11 => ?_) (fun zc11 => ?_)
  · refine g_blk (pc' := 29) (loc' := [some (vR (7, 0, 0)), some (vI r), some (vI a)]) (st' := [vI (-1 : Int32)]) (σ' := σ) fl4_ok [(28, .iconst (-1))] (by decide +kernel) rfl rfl ?_
    exact g_iret (by decide +kernel) ⟨by rw [xextra, if_pos zc11], by rw [xextra, if_pos zc11]; exact XW.rf hX⟩
  · refine g_blk (pc' := 22) (loc' := [some (vR (7, 0, 0)), some (vI r), some (vI a)]) (st' := [vI a, vR (0, 1, 0)]) (σ' := σ) fl4_ok [(14, .aload_n 0), (15, .getfield 10), (18, .getfield 77), (21, .iload_n 2)] (by decide +kernel) rfl rfl ?_
    refine g_callVp (0, 1, 0) [vI a] [] vl_RX4_55 mi_X3_has (ct_has l x0 1 (by decide) a) rfl rfl rfl rfl ⟨Nat.le_of_ble_eq_true rfl, Nat.le_of_ble_eq_true rfl⟩ rfl (Nat.le_of_ble_eq_true rfl) (by decide +kernel) ?_
    refine g_if_ne (off := 5) (tgt := 30) (by decide +kernel) (by decide) (fun zc25 => ?_) (fun zc25 => ?_)
    · refine g_blk (pc' := 39) (loc' := [some (vR (7, 0, 0)), some (vI r), some (vI a)]) (st' := [vI (4 : Int32), vI r, vR (0, 0, 0)]) (σ' := σ) fl4_ok [(30, .aload_n 0), (31, .getfield 10), (34, .getfield 37), (37, .iload_n 1), (38, .iconst 4)] (by decide +kernel) rfl rfl ?_
      refine g_callVp (0, 0, 0) [vI r, vI (4 : Int32)] [] vl_RX4_107 mi_X3_cell (ct_cell l x0 0 (by decide) r (4 : Int32)) rfl rfl rfl rfl ⟨Nat.le_of_ble_eq_true rfl, Nat.le_of_ble_eq_true rfl⟩ rfl (Nat.le_of_ble_eq_true rfl) (by decide +kernel) ?_
      refine g_if_eq (off := 14) (tgt := 56) (by decide +kernel) (by decide) (fun zc42 => ?_) (fun zc42 => ?_)
      · refine g_blk (pc' := 58) (loc' := [some (vR (7, 0, 0)), some (vI r), some (vI a)]) (st' := [vI (-5 : Int32)]) (σ' := σ) fl4_ok [(56, .bipush (-5))] (by decide +kernel) rfl rfl ?_
        exact g_iret (by decide +kernel) ⟨by rw [xextra, if_neg zc11, if_pos zc25, if_pos zc42], by rw [xextra, if_neg zc11, if_pos zc25, if_pos zc42]; exact XW.rf hX⟩
      · refine g_blk (pc' := 50) (loc' := [some (vR (7, 0, 0)), some (vI r), some (vI a)]) (st' := [vI r, vR (2, 0, 0)]) (σ' := σ) fl4_ok [(45, .aload_n 0), (46, .getfield 10), (49, .iload_n 1)] (by decide +kernel) rfl rfl ?_
        refine g_callVp (2, 0, 0) [vI r] [] vl_RX4_70 mi_X1_isAway (c_X1_isAway l x0 r) rfl rfl rfl rfl ⟨Nat.le_of_ble_eq_true rfl, Nat.le_of_ble_eq_true rfl⟩ rfl (Nat.le_of_ble_eq_true rfl) (by decide +kernel) ?_
        refine g_if_eq (off := 6) (tgt := 59) (by decide +kernel) (by decide) (fun zc53 => ?_) (fun zc53 => ?_)
        · refine g_blk (pc' := 67) (loc' := [some (vR (7, 0, 0)), some (vI r), some (vI a)]) (st' := [vR (2, 0, 0), vR (3, 0, 0)]) (σ' := σ) fl4_ok [(59, .aload_n 0), (60, .getfield 22), (63, .aload_n 0), (64, .getfield 10)] (by decide +kernel) rfl rfl ?_
          refine g_callV (3, 0, 0) [vR (2, 0, 0)] [] vl_RX4_47 mi_X0_keep (c_X0_keep l x2 x0 x5.1) rfl rfl rfl rfl ⟨Nat.le_of_ble_eq_true rfl, Nat.le_of_ble_eq_true rfl⟩ rfl (Nat.le_of_ble_eq_true rfl) (by decide +kernel) (fun o σk hPk => ?_)
          obtain ⟨rfl, k1, k2, k3⟩ := hPk
          obtain ⟨hS0, hH0⟩ := k3.house (h := 0) (by decide)
          have hHk := hH0 x0
          refine g_blk (pc' := 76) (loc' := [some (vR (7, 0, 0)), some (vI r), some (vI a)]) (st' := [vI a, vI r, vR (2, 0, 0)]) (σ' := σk) fl4_ok [(70, .aload_n 0), (71, .getfield 10), (74, .iload_n 1), (75, .iload_n 2)] (by decide +kernel) rfl rfl ?_
          refine g_callV (2, 0, 0) [vI r, vI a] [] vl_RX4_111 mi_X1_payDebt (c_X1_payDebt l r a hHk) rfl rfl rfl rfl ⟨Nat.le_of_ble_eq_true rfl, Nat.le_of_ble_eq_true rfl⟩ rfl (Nat.le_of_ble_eq_true rfl) (by decide +kernel) (fun o σ1 hPσ1 => ?_)
          obtain ⟨rfl, hWσ1⟩ := hPσ1
          refine g_iret (by decide +kernel) ⟨?_, ?_⟩
          · rw [xextra, if_neg zc11, if_pos zc25, if_neg zc42, if_pos zc53]
            first | rfl | (rw [hWσ1.1, hS0]; done) | (rw [hWσ1.1, hS0]; rfl) | (rw [hS0]; done) | (rw [hS0]; rfl)
          · rw [xextra, if_neg zc11, if_pos zc25, if_neg zc42, if_pos zc53]
            exact x_mut hX k1 k2 k3 (by rw [hWσ1.1, hS0] <;> rfl) hWσ1.2.1 (hWσ1.2.2) (inv_same x5 rfl rfl)
        · refine g_blk (pc' := 58) (loc' := [some (vR (7, 0, 0)), some (vI r), some (vI a)]) (st' := [vI (-5 : Int32)]) (σ' := σ) fl4_ok [(56, .bipush (-5))] (by decide +kernel) rfl rfl ?_
          exact g_iret (by decide +kernel) ⟨by rw [xextra, if_neg zc11, if_pos zc25, if_neg zc42, if_neg zc53], by rw [xextra, if_neg zc11, if_pos zc25, if_neg zc42, if_neg zc53]; exact XW.rf hX⟩
    · refine g_blk (pc' := 29) (loc' := [some (vR (7, 0, 0)), some (vI r), some (vI a)]) (st' := [vI (-1 : Int32)]) (σ' := σ) fl4_ok [(28, .iconst (-1))] (by decide +kernel) rfl rfl ?_
      exact g_iret (by decide +kernel) ⟨by rw [xextra, if_neg zc11, if_neg (not_not_intro zc25)], by rw [xextra, if_neg zc11, if_neg (not_not_intro zc25)]; exact XW.rf hX⟩
set_option maxHeartbeats 2000000 in
theorem c_X4_end (l : Launch) {σ : Sg} (hX : XOK σ)  : Con l 4 yX4_end cX4_end 1 (some .int) [vR (7, 0, 0)] σ (fun o σ' => o = some (vI (xend (habs σ 0) (hist σ) (pv σ)).1) ∧ XW (xend (habs σ 0) (hist σ) (pv σ)).2 σ σ') := by
  refine con_of pn_X4_end (Nat.le_of_ble_eq_true rfl) (fun hPK hok => ?_)
  show G l (Rm 4) RX4 cX4_end 1 (some .int) _ 0 [some (vR (7, 0, 0))] [] σ
  obtain ⟨x0, x1, x2, x3, x4, x5, x6⟩ := id hX
  refine g_blk (pc' := 7) (loc' := [some (vR (7, 0, 0))]) (st' := [vI ((habs σ 0).2 6)]) (σ' := σ) fl4_ok [(0, .aload_n 0), (1, .getfield 10), (4, .getfield 90)] (by decide +kernel) rfl rfl ?_
  refine g_if_eq (off := 16) (tgt := 23) (by decide +kernel) (by decide) (fun zc7 => ?_) (fun zc7 => ?_)
  · refine g_blk (pc' := 25) (loc' := [some (vR (7, 0, 0))]) (st' := [vI (-5 : Int32)]) (σ' := σ) fl4_ok [(23, .bipush (-5))] (by decide +kernel) rfl rfl ?_
    exact g_iret (by decide +kernel) ⟨by rw [xend, if_pos zc7], by rw [xend, if_pos zc7]; exact XW.rf hX⟩
  · refine g_blk (pc' := 20) (loc' := [some (vR (7, 0, 0))]) (st' := [vI (999 : Int32), vI ((habs σ 0).2 5)]) (σ' := σ) fl4_ok [(10, .aload_n 0), (11, .getfield 10), (14, .getfield 114), (17, .sipush 999)] (by decide +kernel) rfl rfl ?_
    refine g_icmp_lt (off := 6) (tgt := 26) (by decide +kernel) (by decide) (fun zc20 => ?_) (fun zc20 => ?_)
    · refine g_blk (pc' := 34) (loc' := [some (vR (7, 0, 0))]) (st' := [vR (2, 0, 0), vR (3, 0, 0)]) (σ' := σ) fl4_ok [(26, .aload_n 0), (27, .getfield 22), (30, .aload_n 0), (31, .getfield 10)] (by decide +kernel) rfl rfl ?_
      refine g_callV (3, 0, 0) [vR (2, 0, 0)] [] vl_RX4_47 mi_X0_keep (c_X0_keep l x2 x0 x5.1) rfl rfl rfl rfl ⟨Nat.le_of_ble_eq_true rfl, Nat.le_of_ble_eq_true rfl⟩ rfl (Nat.le_of_ble_eq_true rfl) (by decide +kernel) (fun o σk hPk => ?_)
      obtain ⟨rfl, k1, k2, k3⟩ := hPk
      obtain ⟨hS0, hH0⟩ := k3.house (h := 0) (by decide)
      have hHk := hH0 x0
      refine g_blk (pc' := 41) (loc' := [some (vR (7, 0, 0))]) (st' := [vR (2, 0, 0)]) (σ' := σk) fl4_ok [(37, .aload_n 0), (38, .getfield 10)] (by decide +kernel) rfl rfl ?_
      refine g_callV (2, 0, 0) [] [] vl_RX4_118 mi_X1_endWeek (c_X1_endWeek l hHk) rfl rfl rfl rfl ⟨Nat.le_of_ble_eq_true rfl, Nat.le_of_ble_eq_true rfl⟩ rfl (Nat.le_of_ble_eq_true rfl) (by decide +kernel) (fun o σ1 hPσ1 => ?_)
      obtain ⟨rfl, hWσ1⟩ := hPσ1
      refine g_iret (by decide +kernel) ⟨?_, ?_⟩
      · rw [xend, if_neg zc7, if_pos zc20]
        first | rfl | (rw [hWσ1.1, hS0]; done) | (rw [hWσ1.1, hS0]; rfl) | (rw [hS0]; done) | (rw [hS0]; rfl)
      · rw [xend, if_neg zc7, if_pos zc20]
        exact x_mut hX k1 k2 k3 (by rw [hWσ1.1, hS0] <;> rfl) hWσ1.2.1 (hWσ1.2.2) (inv_end _)
    · refine g_blk (pc' := 25) (loc' := [some (vR (7, 0, 0))]) (st' := [vI (-5 : Int32)]) (σ' := σ) fl4_ok [(23, .bipush (-5))] (by decide +kernel) rfl rfl ?_
      exact g_iret (by decide +kernel) ⟨by rw [xend, if_neg zc7, if_neg zc20], by rw [xend, if_neg zc7, if_neg zc20]; exact XW.rf hX⟩
set_option maxHeartbeats 2000000 in
theorem c_X4_propose (l : Launch) {σ : Sg} (hX : XOK σ) (a b : Int32)  : Con l 4 yX4_propose cX4_propose 3 (some .int) [vR (7, 0, 0), vI a, vI b] σ (fun o σ' => o = some (vI (xpropose (habs σ 0) (hist σ) (pv σ) a b).1) ∧ XW (xpropose (habs σ 0) (hist σ) (pv σ) a b).2 σ σ') := by
  refine con_of pn_X4_propose (Nat.le_of_ble_eq_true rfl) (fun hPK hok => ?_)
  show G l (Rm 4) RX4 cX4_propose 3 (some .int) _ 0 [some (vR (7, 0, 0)), some (vI a), some (vI b)] [] σ
  obtain ⟨x0, x1, x2, x3, x4, x5, x6⟩ := id hX
  refine g_blk (pc' := 8) (loc' := [some (vR (7, 0, 0)), some (vI a), some (vI b)]) (st' := [vI a, vR (0, 2, 0)]) (σ' := σ) fl4_ok [(0, .aload_n 0), (1, .getfield 10), (4, .getfield 98), (7, .iload_n 1)] (by decide +kernel) rfl rfl ?_
  refine g_callVp (0, 2, 0) [vI a] [] vl_RX4_55 mi_X3_has (ct_has l x0 2 (by decide) a) rfl rfl rfl rfl ⟨Nat.le_of_ble_eq_true rfl, Nat.le_of_ble_eq_true rfl⟩ rfl (Nat.le_of_ble_eq_true rfl) (by decide +kernel) ?_
  refine g_if_eq (off := 17) (tgt := 28) (by decide +kernel) (by decide) (fun zc11 => ?_) (fun zc11 => ?_)
  · refine g_blk (pc' := 29) (loc' := [some (vR (7, 0, 0)), some (vI a), some (vI b)]) (st' := [vI (-1 : Int32)]) (σ' := σ) fl4_ok [(28, .iconst (-1))] (by decide +kernel) rfl rfl ?_
    exact g_iret (by decide +kernel) ⟨by rw [xpropose, if_pos zc11], by rw [xpropose, if_pos zc11]; exact XW.rf hX⟩
  · refine g_blk (pc' := 22) (loc' := [some (vR (7, 0, 0)), some (vI a), some (vI b)]) (st' := [vI b, vR (0, 2, 0)]) (σ' := σ) fl4_ok [(14, .aload_n 0), (15, .getfield 10), (18, .getfield 98), (21, .iload_n 2)] (by decide +kernel) rfl rfl ?_
    refine g_callVp (0, 2, 0) [vI b] [] vl_RX4_55 mi_X3_has (ct_has l x0 2 (by decide) b) rfl rfl rfl rfl ⟨Nat.le_of_ble_eq_true rfl, Nat.le_of_ble_eq_true rfl⟩ rfl (Nat.le_of_ble_eq_true rfl) (by decide +kernel) ?_
    refine g_if_ne (off := 5) (tgt := 30) (by decide +kernel) (by decide) (fun zc25 => ?_) (fun zc25 => ?_)
    · refine g_blk (pc' := 36) (loc' := [some (vR (7, 0, 0)), some (vI a), some (vI b)]) (st' := [vI b, vI a, vR (2, 0, 0)]) (σ' := σ) fl4_ok [(30, .aload_n 0), (31, .getfield 10), (34, .iload_n 1), (35, .iload_n 2)] (by decide +kernel) rfl rfl ?_
      refine g_callVp (2, 0, 0) [vI a, vI b] [] vl_RX4_121 mi_X1_canExchange (c_X1_canExchange l x0 a b) rfl rfl rfl rfl ⟨Nat.le_of_ble_eq_true rfl, Nat.le_of_ble_eq_true rfl⟩ rfl (Nat.le_of_ble_eq_true rfl) (by decide +kernel) ?_
      refine g_if_eq (off := 15) (tgt := 54) (by decide +kernel) (by decide) (fun zc39 => ?_) (fun zc39 => ?_)
      · refine g_blk (pc' := 56) (loc' := [some (vR (7, 0, 0)), some (vI a), some (vI b)]) (st' := [vI (-5 : Int32)]) (σ' := σ) fl4_ok [(54, .bipush (-5))] (by decide +kernel) rfl rfl ?_
        exact g_iret (by decide +kernel) ⟨by rw [xpropose, if_neg zc11, if_pos zc25, if_pos zc39], by rw [xpropose, if_neg zc11, if_pos zc25, if_pos zc39]; exact XW.rf hX⟩
      · refine g_blk (pc' := 48) (loc' := [some (vR (7, 0, 0)), some (vI a), some (vI b)]) (st' := [vI b, vI a, vR (2, 0, 0)]) (σ' := σ) fl4_ok [(42, .aload_n 0), (43, .getfield 10), (46, .iload_n 1), (47, .iload_n 2)] (by decide +kernel) rfl rfl ?_
        refine g_callVp (2, 0, 0) [vI a, vI b] [] vl_RX4_124 mi_X1_isProposed (c_X1_isProposed l x0 a b) rfl rfl rfl rfl ⟨Nat.le_of_ble_eq_true rfl, Nat.le_of_ble_eq_true rfl⟩ rfl (Nat.le_of_ble_eq_true rfl) (by decide +kernel) ?_
        refine g_if_eq (off := 6) (tgt := 57) (by decide +kernel) (by decide) (fun zc51 => ?_) (fun zc51 => ?_)
        · refine g_blk (pc' := 64) (loc' := [some (vR (7, 0, 0)), some (vI a), some (vI b)]) (st' := [vR (0, 3, 0)]) (σ' := σ) fl4_ok [(57, .aload_n 0), (58, .getfield 10), (61, .getfield 127)] (by decide +kernel) rfl rfl ?_
          refine g_callVp (0, 3, 0) [] [] vl_RX4_41 mi_X3_isFull (ct_isFull l x0 3 (by decide)) rfl rfl rfl rfl ⟨Nat.le_of_ble_eq_true rfl, Nat.le_of_ble_eq_true rfl⟩ rfl (Nat.le_of_ble_eq_true rfl) (by decide +kernel) ?_
          refine g_if_eq (off := 6) (tgt := 73) (by decide +kernel) (by decide) (fun zc67 => ?_) (fun zc67 => ?_)
          · refine g_blk (pc' := 81) (loc' := [some (vR (7, 0, 0)), some (vI a), some (vI b)]) (st' := [vR (2, 0, 0), vR (3, 0, 0)]) (σ' := σ) fl4_ok [(73, .aload_n 0), (74, .getfield 22), (77, .aload_n 0), (78, .getfield 10)] (by decide +kernel) rfl rfl ?_
            refine g_callV (3, 0, 0) [vR (2, 0, 0)] [] vl_RX4_47 mi_X0_keep (c_X0_keep l x2 x0 x5.1) rfl rfl rfl rfl ⟨Nat.le_of_ble_eq_true rfl, Nat.le_of_ble_eq_true rfl⟩ rfl (Nat.le_of_ble_eq_true rfl) (by decide +kernel) (fun o σk hPk => ?_)
            obtain ⟨rfl, k1, k2, k3⟩ := hPk
            obtain ⟨hS0, hH0⟩ := k3.house (h := 0) (by decide)
            have hHk := hH0 x0
            refine g_blk (pc' := 90) (loc' := [some (vR (7, 0, 0)), some (vI a), some (vI b)]) (st' := [vI b, vI a, vR (2, 0, 0)]) (σ' := σk) fl4_ok [(84, .aload_n 0), (85, .getfield 10), (88, .iload_n 1), (89, .iload_n 2)] (by decide +kernel) rfl rfl ?_
            refine g_callV (2, 0, 0) [vI a, vI b] [] vl_RX4_130 mi_X1_addSwap (c_X1_addSwap l a b hHk (by rw [hS0]; exact full_lt zc67)) rfl rfl rfl rfl ⟨Nat.le_of_ble_eq_true rfl, Nat.le_of_ble_eq_true rfl⟩ rfl (Nat.le_of_ble_eq_true rfl) (by decide +kernel) (fun o σ1 hPσ1 => ?_)
            obtain ⟨rfl, hWσ1⟩ := hPσ1
            refine g_iret (by decide +kernel) ⟨?_, ?_⟩
            · rw [xpropose, if_neg zc11, if_pos zc25, if_neg zc39, if_pos zc51, if_pos zc67]
              first | rfl | (rw [hWσ1.1, hS0]; done) | (rw [hWσ1.1, hS0]; rfl) | (rw [hS0]; done) | (rw [hS0]; rfl)
            · rw [xpropose, if_neg zc11, if_pos zc25, if_neg zc39, if_pos zc51, if_pos zc67]
              exact x_mut hX k1 k2 k3 (by rw [hWσ1.1, hS0] <;> rfl) hWσ1.2.1 (hWσ1.2.2) (inv_same x5 rfl rfl)
          · refine g_blk (pc' := 72) (loc' := [some (vR (7, 0, 0)), some (vI a), some (vI b)]) (st' := [vI (-4 : Int32)]) (σ' := σ) fl4_ok [(70, .bipush (-4))] (by decide +kernel) rfl rfl ?_
            exact g_iret (by decide +kernel) ⟨by rw [xpropose, if_neg zc11, if_pos zc25, if_neg zc39, if_pos zc51, if_neg zc67], by rw [xpropose, if_neg zc11, if_pos zc25, if_neg zc39, if_pos zc51, if_neg zc67]; exact XW.rf hX⟩
        · refine g_blk (pc' := 56) (loc' := [some (vR (7, 0, 0)), some (vI a), some (vI b)]) (st' := [vI (-5 : Int32)]) (σ' := σ) fl4_ok [(54, .bipush (-5))] (by decide +kernel) rfl rfl ?_
          exact g_iret (by decide +kernel) ⟨by rw [xpropose, if_neg zc11, if_pos zc25, if_neg zc39, if_neg zc51], by rw [xpropose, if_neg zc11, if_pos zc25, if_neg zc39, if_neg zc51]; exact XW.rf hX⟩
    · refine g_blk (pc' := 29) (loc' := [some (vR (7, 0, 0)), some (vI a), some (vI b)]) (st' := [vI (-1 : Int32)]) (σ' := σ) fl4_ok [(28, .iconst (-1))] (by decide +kernel) rfl rfl ?_
      exact g_iret (by decide +kernel) ⟨by rw [xpropose, if_neg zc11, if_neg (not_not_intro zc25)], by rw [xpropose, if_neg zc11, if_neg (not_not_intro zc25)]; exact XW.rf hX⟩
set_option maxHeartbeats 2000000 in
theorem c_X4_answer (l : Launch) {σ : Sg} (hX : XOK σ) (s y : Int32)  : Con l 4 yX4_answer cX4_answer 3 (some .int) [vR (7, 0, 0), vI s, vI y] σ (fun o σ' => o = some (vI (xanswer (habs σ 0) (hist σ) (pv σ) s y).1) ∧ XW (xanswer (habs σ 0) (hist σ) (pv σ) s y).2 σ σ') := by
  refine con_of pn_X4_answer (Nat.le_of_ble_eq_true rfl) (fun hPK hok => ?_)
  show G l (Rm 4) RX4 cX4_answer 3 (some .int) _ 0 [some (vR (7, 0, 0)), some (vI s), some (vI y)] [] σ
  obtain ⟨x0, x1, x2, x3, x4, x5, x6⟩ := id hX
  refine g_blk (pc' := 8) (loc' := [some (vR (7, 0, 0)), some (vI s), some (vI y)]) (st' := [vI s, vR (0, 3, 0)]) (σ' := σ) fl4_ok [(0, .aload_n 0), (1, .getfield 10), (4, .getfield 127), (7, .iload_n 1)] (by decide +kernel) rfl rfl ?_
  refine g_callVp (0, 3, 0) [vI s] [] vl_RX4_55 mi_X3_has (ct_has l x0 3 (by decide) s) rfl rfl rfl rfl ⟨Nat.le_of_ble_eq_true rfl, Nat.le_of_ble_eq_true rfl⟩ rfl (Nat.le_of_ble_eq_true rfl) (by decide +kernel) ?_
  refine g_if_ne (off := 5) (tgt := 16) (by decide +kernel) (by decide) (fun zc11 => ?_) (fun zc11 => ?_)
  · refine g_blk (pc' := 19) (loc' := [some (vR (7, 0, 0)), some (vI s), some (vI y)]) (st' := [vI (1 : Int32), vI (0 : Int32), vI y]) (σ' := σ) fl4_ok [(16, .iload_n 2), (17, .iconst 0), (18, .iconst 1)] (by decide +kernel) rfl rfl ?_
    refine g_callSp [vI y, vI (0 : Int32), vI (1 : Int32)] [] sl_RX4_62 mi_X4_isIn (c_X4_isIn l y (0 : Int32) (1 : Int32)) rfl ⟨Nat.le_of_ble_eq_true rfl, Nat.le_of_ble_eq_true rfl⟩ rfl (Nat.le_of_ble_eq_true rfl) (by decide +kernel) ?_
    refine g_if_ne (off := 6) (tgt := 28) (by decide +kernel) (by decide) (fun zc22 => ?_) (fun zc22 => ?_)
    · refine g_blk (pc' := 36) (loc' := [some (vR (7, 0, 0)), some (vI s), some (vI y)]) (st' := [vR (2, 0, 0), vR (3, 0, 0)]) (σ' := σ) fl4_ok [(28, .aload_n 0), (29, .getfield 22), (32, .aload_n 0), (33, .getfield 10)] (by decide +kernel) rfl rfl ?_
      refine g_callV (3, 0, 0) [vR (2, 0, 0)] [] vl_RX4_47 mi_X0_keep (c_X0_keep l x2 x0 x5.1) rfl rfl rfl rfl ⟨Nat.le_of_ble_eq_true rfl, Nat.le_of_ble_eq_true rfl⟩ rfl (Nat.le_of_ble_eq_true rfl) (by decide +kernel) (fun o σk hPk => ?_)
      obtain ⟨rfl, k1, k2, k3⟩ := hPk
      obtain ⟨hS0, hH0⟩ := k3.house (h := 0) (by decide)
      have hHk := hH0 x0
      refine g_blk (pc' := 41) (loc' := [some (vR (7, 0, 0)), some (vI s), some (vI y)]) (st' := [vI (1 : Int32), vI y]) (σ' := σk) fl4_ok [(39, .iload_n 2), (40, .iconst 1)] (by decide +kernel) rfl rfl ?_
      refine g_icmp_ne (off := 14) (tgt := 55) (by decide +kernel) (by decide) (fun zc41 => ?_) (fun zc41 => ?_)
      · refine g_blk (pc' := 60) (loc' := [some (vR (7, 0, 0)), some (vI s), some (vI y)]) (st' := [vI s, vR (2, 0, 0)]) (σ' := σk) fl4_ok [(55, .aload_n 0), (56, .getfield 10), (59, .iload_n 1)] (by decide +kernel) rfl rfl ?_
        obtain ⟨r, hr, rfl⟩ := has_ex (by have := ha_N x0 3 (by decide); have : mst 3 ≤ 30 := mst_le 3; omega) zc11
        refine g_callV (2, 0, 0) [vI (nI r)] [] vl_RX4_136 mi_X1_declineSwap (c_X1_declineSwap l (r := r) hHk (by rw [hS0]; exact hr)) rfl rfl rfl rfl ⟨Nat.le_of_ble_eq_true rfl, Nat.le_of_ble_eq_true rfl⟩ rfl (Nat.le_of_ble_eq_true rfl) (by decide +kernel) (fun o σ1 hPσ1 => ?_)
        obtain ⟨rfl, hWσ1⟩ := hPσ1
        refine g_iret (by decide +kernel) ⟨?_, ?_⟩
        · rw [xanswer, if_pos zc11, if_pos zc22, if_pos zc41]
          first | rfl | (rw [hWσ1.1, hS0]; done) | (rw [hWσ1.1, hS0]; rfl) | (rw [hS0]; done) | (rw [hS0]; rfl)
        · rw [xanswer, if_pos zc11, if_pos zc22, if_pos zc41]
          exact x_mut hX k1 k2 k3 (by rw [nI_clamp (by have := ha_N x0 3 (by decide); have : mst 3 ≤ 30 := mst_le 3; omega)]; rw [hWσ1.1, hS0] <;> rfl) hWσ1.2.1 (hWσ1.2.2) (inv_same x5 rfl rfl)
      · refine g_blk (pc' := 49) (loc' := [some (vR (7, 0, 0)), some (vI s), some (vI y)]) (st' := [vI s, vR (2, 0, 0)]) (σ' := σk) fl4_ok [(44, .aload_n 0), (45, .getfield 10), (48, .iload_n 1)] (by decide +kernel) rfl rfl ?_
        refine g_callV (2, 0, 0) [vI s] [] vl_RX4_133 mi_X1_acceptSwap (c_X1_acceptSwap l s hHk) rfl rfl rfl rfl ⟨Nat.le_of_ble_eq_true rfl, Nat.le_of_ble_eq_true rfl⟩ rfl (Nat.le_of_ble_eq_true rfl) (by decide +kernel) (fun o σ2 hPσ2 => ?_)
        obtain ⟨rfl, hWσ2⟩ := hPσ2
        refine g_blk (pc' := 63) (loc' := [some (vR (7, 0, 0)), some (vI s), some (vI y)]) (st' := [vI (nI (sz (accS (habs σk 0) s) 3))]) (σ' := σ2) fl4_ok [(52, .goto 11)] (by decide +kernel) rfl rfl ?_
        refine g_iret (by decide +kernel) ⟨?_, ?_⟩
        · rw [xanswer, if_pos zc11, if_pos zc22, if_neg (not_not_intro zc41)]
          first | rfl | (rw [hWσ2.1, hS0]; done) | (rw [hWσ2.1, hS0]; rfl) | (rw [hS0]; done) | (rw [hS0]; rfl)
        · rw [xanswer, if_pos zc11, if_pos zc22, if_neg (not_not_intro zc41)]
          exact x_mut hX k1 k2 k3 (by rw [hWσ2.1, hS0] <;> rfl) hWσ2.2.1 (hWσ2.2.2) (inv_same x5 rfl rfl)
    · refine g_blk (pc' := 27) (loc' := [some (vR (7, 0, 0)), some (vI s), some (vI y)]) (st' := [vI (-2 : Int32)]) (σ' := σ) fl4_ok [(25, .bipush (-2))] (by decide +kernel) rfl rfl ?_
      exact g_iret (by decide +kernel) ⟨by rw [xanswer, if_pos zc11, if_neg (not_not_intro zc22)], by rw [xanswer, if_pos zc11, if_neg (not_not_intro zc22)]; exact XW.rf hX⟩
  · refine g_blk (pc' := 15) (loc' := [some (vR (7, 0, 0)), some (vI s), some (vI y)]) (st' := [vI (-1 : Int32)]) (σ' := σ) fl4_ok [(14, .iconst (-1))] (by decide +kernel) rfl rfl ?_
    exact g_iret (by decide +kernel) ⟨by rw [xanswer, if_neg (not_not_intro zc11)], by rw [xanswer, if_neg (not_not_intro zc11)]; exact XW.rf hX⟩
set_option maxHeartbeats 2000000 in
theorem c_X4_about (l : Launch) {σ : Sg} (hX : XOK σ) (r w : Int32)  : Con l 4 yX4_about cX4_about 3 (some .int) [vR (7, 0, 0), vI r, vI w] σ (pureP (xabout (habs σ 0) r w) σ) := by
  refine con_of pn_X4_about (Nat.le_of_ble_eq_true rfl) (fun hPK hok => ?_)
  show G l (Rm 4) RX4 cX4_about 3 (some .int) _ 0 [some (vR (7, 0, 0)), some (vI r), some (vI w)] [] σ
  obtain ⟨x0, x1, x2, x3, x4, x5, x6⟩ := id hX
  refine g_blk (pc' := 8) (loc' := [some (vR (7, 0, 0)), some (vI r), some (vI w)]) (st' := [vI r, vR (0, 0, 0)]) (σ' := σ) fl4_ok [(0, .aload_n 0), (1, .getfield 10), (4, .getfield 37), (7, .iload_n 1)] (by decide +kernel) rfl rfl ?_
  refine g_callVp (0, 0, 0) [vI r] [] vl_RX4_55 mi_X3_has (ct_has l x0 0 (by decide) r) rfl rfl rfl rfl ⟨Nat.le_of_ble_eq_true rfl, Nat.le_of_ble_eq_true rfl⟩ rfl (Nat.le_of_ble_eq_true rfl) (by decide +kernel) ?_
  refine g_if_ne (off := 5) (tgt := 16) (by decide +kernel) (by decide) (fun zc11 => ?_) (fun zc11 => ?_)
  · refine g_blk (pc' := 17) (loc' := [some (vR (7, 0, 0)), some (vI r), some (vI w)]) (st' := [vI w]) (σ' := σ) fl4_ok [(16, .iload_n 2)] (by decide +kernel) rfl rfl ?_
    rcases pk_ix w (n := 9) (by decide) with zq | zq | ⟨j, hj, rfl⟩
    · refine g_tabO (dflt := 163) (lo := 0) (hi := 8) (offs := #[51, 64, 77, 90, 103, 112, 133, 142, 151]) (len := 51) (tgt := 180) (by decide +kernel) (Or.inl (tab_lo zq)) (by decide) ?_
      refine g_blk (pc' := 182) (loc' := [some (vR (7, 0, 0)), some (vI r), some (vI w)]) (st' := [vI (-2 : Int32)]) (σ' := σ) fl4_ok [(180, .bipush (-2))] (by decide +kernel) rfl rfl ?_
      exact g_iret (by decide +kernel) (by rw [xabout, if_pos zc11, sw_lo zq]; exact ⟨rfl, rfl⟩)
    · refine g_tabO (dflt := 163) (lo := 0) (hi := 8) (offs := #[51, 64, 77, 90, 103, 112, 133, 142, 151]) (len := 51) (tgt := 180) (by decide +kernel) (Or.inr (tab_hi 8 (by decide) zq)) (by decide) ?_
      refine g_blk (pc' := 182) (loc' := [some (vR (7, 0, 0)), some (vI r), some (vI w)]) (st' := [vI (-2 : Int32)]) (σ' := σ) fl4_ok [(180, .bipush (-2))] (by decide +kernel) rfl rfl ?_
      exact g_iret (by decide +kernel) (by rw [xabout, if_pos zc11, sw_hi zq]; exact ⟨rfl, rfl⟩)
    · match j, hj with
      | 0, hj =>
        refine g_tabI (dflt := 163) (lo := 0) (hi := 8) (offs := #[51, 64, 77, 90, 103, 112, 133, 142, 151]) (len := 51) (off := 51) (tgt := 68) (by decide +kernel) (by decide) (by decide) rfl (by decide) ?_
        refine g_blk (pc' := 77) (loc' := [some (vR (7, 0, 0)), some (vI r), some (vI (nI 0))]) (st' := [vI (0 : Int32), vI r, vR (0, 0, 0)]) (σ' := σ) fl4_ok [(68, .aload_n 0), (69, .getfield 10), (72, .getfield 37), (75, .iload_n 1), (76, .iconst 0)] (by decide +kernel) rfl rfl ?_
        refine g_callVp (0, 0, 0) [vI r, vI (0 : Int32)] [] vl_RX4_107 mi_X3_cell (ct_cell l x0 0 (by decide) r (0 : Int32)) rfl rfl rfl rfl ⟨Nat.le_of_ble_eq_true rfl, Nat.le_of_ble_eq_true rfl⟩ rfl (Nat.le_of_ble_eq_true rfl) (by decide +kernel) ?_
        exact g_iret (by decide +kernel) (by rw [xabout, if_pos zc11, sw_in (by decide) hj]; exact ⟨rfl, rfl⟩)
      | 1, hj =>
        refine g_tabI (dflt := 163) (lo := 0) (hi := 8) (offs := #[51, 64, 77, 90, 103, 112, 133, 142, 151]) (len := 51) (off := 64) (tgt := 81) (by decide +kernel) (by decide) (by decide) rfl (by decide) ?_
        refine g_blk (pc' := 90) (loc' := [some (vR (7, 0, 0)), some (vI r), some (vI (nI 1))]) (st' := [vI (3 : Int32), vI r, vR (0, 0, 0)]) (σ' := σ) fl4_ok [(81, .aload_n 0), (82, .getfield 10), (85, .getfield 37), (88, .iload_n 1), (89, .iconst 3)] (by decide +kernel) rfl rfl ?_
        refine g_callVp (0, 0, 0) [vI r, vI (3 : Int32)] [] vl_RX4_107 mi_X3_cell (ct_cell l x0 0 (by decide) r (3 : Int32)) rfl rfl rfl rfl ⟨Nat.le_of_ble_eq_true rfl, Nat.le_of_ble_eq_true rfl⟩ rfl (Nat.le_of_ble_eq_true rfl) (by decide +kernel) ?_
        exact g_iret (by decide +kernel) (by rw [xabout, if_pos zc11, sw_in (by decide) hj]; exact ⟨rfl, rfl⟩)
      | 2, hj =>
        refine g_tabI (dflt := 163) (lo := 0) (hi := 8) (offs := #[51, 64, 77, 90, 103, 112, 133, 142, 151]) (len := 51) (off := 77) (tgt := 94) (by decide +kernel) (by decide) (by decide) rfl (by decide) ?_
        refine g_blk (pc' := 103) (loc' := [some (vR (7, 0, 0)), some (vI r), some (vI (nI 2))]) (st' := [vI (4 : Int32), vI r, vR (0, 0, 0)]) (σ' := σ) fl4_ok [(94, .aload_n 0), (95, .getfield 10), (98, .getfield 37), (101, .iload_n 1), (102, .iconst 4)] (by decide +kernel) rfl rfl ?_
        refine g_callVp (0, 0, 0) [vI r, vI (4 : Int32)] [] vl_RX4_107 mi_X3_cell (ct_cell l x0 0 (by decide) r (4 : Int32)) rfl rfl rfl rfl ⟨Nat.le_of_ble_eq_true rfl, Nat.le_of_ble_eq_true rfl⟩ rfl (Nat.le_of_ble_eq_true rfl) (by decide +kernel) ?_
        exact g_iret (by decide +kernel) (by rw [xabout, if_pos zc11, sw_in (by decide) hj]; exact ⟨rfl, rfl⟩)
      | 3, hj =>
        refine g_tabI (dflt := 163) (lo := 0) (hi := 8) (offs := #[51, 64, 77, 90, 103, 112, 133, 142, 151]) (len := 51) (off := 90) (tgt := 107) (by decide +kernel) (by decide) (by decide) rfl (by decide) ?_
        refine g_blk (pc' := 116) (loc' := [some (vR (7, 0, 0)), some (vI r), some (vI (nI 3))]) (st' := [vI (5 : Int32), vI r, vR (0, 0, 0)]) (σ' := σ) fl4_ok [(107, .aload_n 0), (108, .getfield 10), (111, .getfield 37), (114, .iload_n 1), (115, .iconst 5)] (by decide +kernel) rfl rfl ?_
        refine g_callVp (0, 0, 0) [vI r, vI (5 : Int32)] [] vl_RX4_107 mi_X3_cell (ct_cell l x0 0 (by decide) r (5 : Int32)) rfl rfl rfl rfl ⟨Nat.le_of_ble_eq_true rfl, Nat.le_of_ble_eq_true rfl⟩ rfl (Nat.le_of_ble_eq_true rfl) (by decide +kernel) ?_
        exact g_iret (by decide +kernel) (by rw [xabout, if_pos zc11, sw_in (by decide) hj]; exact ⟨rfl, rfl⟩)
      | 4, hj =>
        refine g_tabI (dflt := 163) (lo := 0) (hi := 8) (offs := #[51, 64, 77, 90, 103, 112, 133, 142, 151]) (len := 51) (off := 103) (tgt := 120) (by decide +kernel) (by decide) (by decide) rfl (by decide) ?_
        refine g_blk (pc' := 125) (loc' := [some (vR (7, 0, 0)), some (vI r), some (vI (nI 4))]) (st' := [vI r, vR (2, 0, 0)]) (σ' := σ) fl4_ok [(120, .aload_n 0), (121, .getfield 10), (124, .iload_n 1)] (by decide +kernel) rfl rfl ?_
        refine g_callVp (2, 0, 0) [vI r] [] vl_RX4_139 mi_X1_loadOf (c_X1_loadOf l x0 r) rfl rfl rfl rfl ⟨Nat.le_of_ble_eq_true rfl, Nat.le_of_ble_eq_true rfl⟩ rfl (Nat.le_of_ble_eq_true rfl) (by decide +kernel) ?_
        exact g_iret (by decide +kernel) (by rw [xabout, if_pos zc11, sw_in (by decide) hj]; exact ⟨rfl, rfl⟩)
      | 5, hj =>
        refine g_tabI (dflt := 163) (lo := 0) (hi := 8) (offs := #[51, 64, 77, 90, 103, 112, 133, 142, 151]) (len := 51) (off := 112) (tgt := 129) (by decide +kernel) (by decide) (by decide) rfl (by decide) ?_
        refine g_blk (pc' := 143) (loc' := [some (vR (7, 0, 0)), some (vI r), some (vI (nI 5))]) (st' := [vI (3 : Int32), vI r, vR (0, 0, 0), vI r, vR (2, 0, 0)]) (σ' := σ) fl4_ok [(129, .aload_n 0), (130, .getfield 10), (133, .iload_n 1), (134, .aload_n 0), (135, .getfield 10), (138, .getfield 37), (141, .iload_n 1), (142, .iconst 3)] (by decide +kernel) rfl rfl ?_
        refine g_callVp (0, 0, 0) [vI r, vI (3 : Int32)] [vI r, vR (2, 0, 0)] vl_RX4_107 mi_X3_cell (ct_cell l x0 0 (by decide) r (3 : Int32)) rfl rfl rfl rfl ⟨Nat.le_of_ble_eq_true rfl, Nat.le_of_ble_eq_true rfl⟩ rfl (Nat.le_of_ble_eq_true rfl) (by decide +kernel) ?_
        refine g_callVp (2, 0, 0) [vI r, vI (cl (habs σ 0) 0 r (3 : Int32))] [] vl_RX4_142 mi_X1_rateOf (c_X1_rateOf l x0 r (cl (habs σ 0) 0 r (3 : Int32))) rfl rfl rfl rfl ⟨Nat.le_of_ble_eq_true rfl, Nat.le_of_ble_eq_true rfl⟩ rfl (Nat.le_of_ble_eq_true rfl) (by decide +kernel) ?_
        exact g_iret (by decide +kernel) (by rw [xabout, if_pos zc11, sw_in (by decide) hj]; exact ⟨rfl, rfl⟩)
      | 6, hj =>
        refine g_tabI (dflt := 163) (lo := 0) (hi := 8) (offs := #[51, 64, 77, 90, 103, 112, 133, 142, 151]) (len := 51) (off := 133) (tgt := 150) (by decide +kernel) (by decide) (by decide) rfl (by decide) ?_
        refine g_blk (pc' := 155) (loc' := [some (vR (7, 0, 0)), some (vI r), some (vI (nI 6))]) (st' := [vI r, vR (2, 0, 0)]) (σ' := σ) fl4_ok [(150, .aload_n 0), (151, .getfield 10), (154, .iload_n 1)] (by decide +kernel) rfl rfl ?_
        refine g_callVp (2, 0, 0) [vI r] [] vl_RX4_145 mi_X1_countOpenTasksOf (c_X1_countOpenTasksOf l x0 r) rfl rfl rfl rfl ⟨Nat.le_of_ble_eq_true rfl, Nat.le_of_ble_eq_true rfl⟩ rfl (Nat.le_of_ble_eq_true rfl) (by decide +kernel) ?_
        exact g_iret (by decide +kernel) (by rw [xabout, if_pos zc11, sw_in (by decide) hj]; exact ⟨rfl, rfl⟩)
      | 7, hj =>
        refine g_tabI (dflt := 163) (lo := 0) (hi := 8) (offs := #[51, 64, 77, 90, 103, 112, 133, 142, 151]) (len := 51) (off := 142) (tgt := 159) (by decide +kernel) (by decide) (by decide) rfl (by decide) ?_
        refine g_blk (pc' := 164) (loc' := [some (vR (7, 0, 0)), some (vI r), some (vI (nI 7))]) (st' := [vI r, vR (2, 0, 0)]) (σ' := σ) fl4_ok [(159, .aload_n 0), (160, .getfield 10), (163, .iload_n 1)] (by decide +kernel) rfl rfl ?_
        refine g_callVp (2, 0, 0) [vI r] [] vl_RX4_148 mi_X1_firstOpenTaskOf (c_X1_firstOpenTaskOf l x0 r) rfl rfl rfl rfl ⟨Nat.le_of_ble_eq_true rfl, Nat.le_of_ble_eq_true rfl⟩ rfl (Nat.le_of_ble_eq_true rfl) (by decide +kernel) ?_
        exact g_iret (by decide +kernel) (by rw [xabout, if_pos zc11, sw_in (by decide) hj]; exact ⟨rfl, rfl⟩)
      | 8, hj =>
        refine g_tabI (dflt := 163) (lo := 0) (hi := 8) (offs := #[51, 64, 77, 90, 103, 112, 133, 142, 151]) (len := 51) (off := 151) (tgt := 168) (by decide +kernel) (by decide) (by decide) rfl (by decide) ?_
        refine g_blk (pc' := 173) (loc' := [some (vR (7, 0, 0)), some (vI r), some (vI (nI 8))]) (st' := [vI r, vR (2, 0, 0)]) (σ' := σ) fl4_ok [(168, .aload_n 0), (169, .getfield 10), (172, .iload_n 1)] (by decide +kernel) rfl rfl ?_
        refine g_callVp (2, 0, 0) [vI r] [] vl_RX4_70 mi_X1_isAway (c_X1_isAway l x0 r) rfl rfl rfl rfl ⟨Nat.le_of_ble_eq_true rfl, Nat.le_of_ble_eq_true rfl⟩ rfl (Nat.le_of_ble_eq_true rfl) (by decide +kernel) ?_
        refine g_callSp [vI (awayS (habs σ 0) r)] [] sl_RX4_73 mi_X4_bit (c_X4_bit l (awayS (habs σ 0) r)) rfl ⟨Nat.le_of_ble_eq_true rfl, Nat.le_of_ble_eq_true rfl⟩ rfl (Nat.le_of_ble_eq_true rfl) (by decide +kernel) ?_
        exact g_iret (by decide +kernel) (by rw [xabout, if_pos zc11, sw_in (by decide) hj]; exact ⟨rfl, rfl⟩)
      | j + 9, hj => exact absurd hj (by omega)
  · refine g_blk (pc' := 15) (loc' := [some (vR (7, 0, 0)), some (vI r), some (vI w)]) (st' := [vI (-1 : Int32)]) (σ' := σ) fl4_ok [(14, .iconst (-1))] (by decide +kernel) rfl rfl ?_
    exact g_iret (by decide +kernel) (by rw [xabout, if_neg (not_not_intro zc11)]; exact ⟨rfl, rfl⟩)
set_option maxHeartbeats 2000000 in
theorem c_X4_room (l : Launch) {σ : Sg} (hX : XOK σ) (a w : Int32)  : Con l 3 yX4_room cX4_room 3 (some .int) [vR (7, 0, 0), vI a, vI w] σ (pureP (xroom (habs σ 0) a w) σ) := by
  refine con_of pn_X4_room (Nat.le_of_ble_eq_true rfl) (fun hPK hok => ?_)
  show G l (Rm 3) RX4 cX4_room 3 (some .int) _ 0 [some (vR (7, 0, 0)), some (vI a), some (vI w)] [] σ
  obtain ⟨x0, x1, x2, x3, x4, x5, x6⟩ := id hX
  refine g_blk (pc' := 8) (loc' := [some (vR (7, 0, 0)), some (vI a), some (vI w)]) (st' := [vI a, vR (0, 1, 0)]) (σ' := σ) fl4_ok [(0, .aload_n 0), (1, .getfield 10), (4, .getfield 77), (7, .iload_n 1)] (by decide +kernel) rfl rfl ?_
  refine g_callVp (0, 1, 0) [vI a] [] vl_RX4_55 mi_X3_has (ct_has l x0 1 (by decide) a) rfl rfl rfl rfl ⟨Nat.le_of_ble_eq_true rfl, Nat.le_of_ble_eq_true rfl⟩ rfl (Nat.le_of_ble_eq_true rfl) (by decide +kernel) ?_
  refine g_if_ne (off := 5) (tgt := 16) (by decide +kernel) (by decide) (fun zc11 => ?_) (fun zc11 => ?_)
  · refine g_blk (pc' := 17) (loc' := [some (vR (7, 0, 0)), some (vI a), some (vI w)]) (st' := [vI w]) (σ' := σ) fl4_ok [(16, .iload_n 2)] (by decide +kernel) rfl rfl ?_
    rcases pk_ix w (n := 7) (by decide) with zq | zq | ⟨j, hj, rfl⟩
    · refine g_tabO (dflt := 132) (lo := 0) (hi := 6) (offs := #[43, 56, 69, 82, 95, 107, 119]) (len := 43) (tgt := 149) (by decide +kernel) (Or.inl (tab_lo zq)) (by decide) ?_
      refine g_blk (pc' := 151) (loc' := [some (vR (7, 0, 0)), some (vI a), some (vI w)]) (st' := [vI (-2 : Int32)]) (σ' := σ) fl4_ok [(149, .bipush (-2))] (by decide +kernel) rfl rfl ?_
      exact g_iret (by decide +kernel) (by rw [xroom, if_pos zc11, sw_lo zq]; exact ⟨rfl, rfl⟩)
    · refine g_tabO (dflt := 132) (lo := 0) (hi := 6) (offs := #[43, 56, 69, 82, 95, 107, 119]) (len := 43) (tgt := 149) (by decide +kernel) (Or.inr (tab_hi 6 (by decide) zq)) (by decide) ?_
      refine g_blk (pc' := 151) (loc' := [some (vR (7, 0, 0)), some (vI a), some (vI w)]) (st' := [vI (-2 : Int32)]) (σ' := σ) fl4_ok [(149, .bipush (-2))] (by decide +kernel) rfl rfl ?_
      exact g_iret (by decide +kernel) (by rw [xroom, if_pos zc11, sw_hi zq]; exact ⟨rfl, rfl⟩)
    · match j, hj with
      | 0, hj =>
        refine g_tabI (dflt := 132) (lo := 0) (hi := 6) (offs := #[43, 56, 69, 82, 95, 107, 119]) (len := 43) (off := 43) (tgt := 60) (by decide +kernel) (by decide) (by decide) rfl (by decide) ?_
        refine g_blk (pc' := 69) (loc' := [some (vR (7, 0, 0)), some (vI a), some (vI (nI 0))]) (st' := [vI (0 : Int32), vI a, vR (0, 1, 0)]) (σ' := σ) fl4_ok [(60, .aload_n 0), (61, .getfield 10), (64, .getfield 77), (67, .iload_n 1), (68, .iconst 0)] (by decide +kernel) rfl rfl ?_
        refine g_callVp (0, 1, 0) [vI a, vI (0 : Int32)] [] vl_RX4_107 mi_X3_cell (ct_cell l x0 1 (by decide) a (0 : Int32)) rfl rfl rfl rfl ⟨Nat.le_of_ble_eq_true rfl, Nat.le_of_ble_eq_true rfl⟩ rfl (Nat.le_of_ble_eq_true rfl) (by decide +kernel) ?_
        exact g_iret (by decide +kernel) (by rw [xroom, if_pos zc11, sw_in (by decide) hj]; exact ⟨rfl, rfl⟩)
      | 1, hj =>
        refine g_tabI (dflt := 132) (lo := 0) (hi := 6) (offs := #[43, 56, 69, 82, 95, 107, 119]) (len := 43) (off := 56) (tgt := 73) (by decide +kernel) (by decide) (by decide) rfl (by decide) ?_
        refine g_blk (pc' := 82) (loc' := [some (vR (7, 0, 0)), some (vI a), some (vI (nI 1))]) (st' := [vI (1 : Int32), vI a, vR (0, 1, 0)]) (σ' := σ) fl4_ok [(73, .aload_n 0), (74, .getfield 10), (77, .getfield 77), (80, .iload_n 1), (81, .iconst 1)] (by decide +kernel) rfl rfl ?_
        refine g_callVp (0, 1, 0) [vI a, vI (1 : Int32)] [] vl_RX4_107 mi_X3_cell (ct_cell l x0 1 (by decide) a (1 : Int32)) rfl rfl rfl rfl ⟨Nat.le_of_ble_eq_true rfl, Nat.le_of_ble_eq_true rfl⟩ rfl (Nat.le_of_ble_eq_true rfl) (by decide +kernel) ?_
        exact g_iret (by decide +kernel) (by rw [xroom, if_pos zc11, sw_in (by decide) hj]; exact ⟨rfl, rfl⟩)
      | 2, hj =>
        refine g_tabI (dflt := 132) (lo := 0) (hi := 6) (offs := #[43, 56, 69, 82, 95, 107, 119]) (len := 43) (off := 69) (tgt := 86) (by decide +kernel) (by decide) (by decide) rfl (by decide) ?_
        refine g_blk (pc' := 95) (loc' := [some (vR (7, 0, 0)), some (vI a), some (vI (nI 2))]) (st' := [vI (2 : Int32), vI a, vR (0, 1, 0)]) (σ' := σ) fl4_ok [(86, .aload_n 0), (87, .getfield 10), (90, .getfield 77), (93, .iload_n 1), (94, .iconst 2)] (by decide +kernel) rfl rfl ?_
        refine g_callVp (0, 1, 0) [vI a, vI (2 : Int32)] [] vl_RX4_107 mi_X3_cell (ct_cell l x0 1 (by decide) a (2 : Int32)) rfl rfl rfl rfl ⟨Nat.le_of_ble_eq_true rfl, Nat.le_of_ble_eq_true rfl⟩ rfl (Nat.le_of_ble_eq_true rfl) (by decide +kernel) ?_
        exact g_iret (by decide +kernel) (by rw [xroom, if_pos zc11, sw_in (by decide) hj]; exact ⟨rfl, rfl⟩)
      | 3, hj =>
        refine g_tabI (dflt := 132) (lo := 0) (hi := 6) (offs := #[43, 56, 69, 82, 95, 107, 119]) (len := 43) (off := 82) (tgt := 99) (by decide +kernel) (by decide) (by decide) rfl (by decide) ?_
        refine g_blk (pc' := 108) (loc' := [some (vR (7, 0, 0)), some (vI a), some (vI (nI 3))]) (st' := [vI (3 : Int32), vI a, vR (0, 1, 0)]) (σ' := σ) fl4_ok [(99, .aload_n 0), (100, .getfield 10), (103, .getfield 77), (106, .iload_n 1), (107, .iconst 3)] (by decide +kernel) rfl rfl ?_
        refine g_callVp (0, 1, 0) [vI a, vI (3 : Int32)] [] vl_RX4_107 mi_X3_cell (ct_cell l x0 1 (by decide) a (3 : Int32)) rfl rfl rfl rfl ⟨Nat.le_of_ble_eq_true rfl, Nat.le_of_ble_eq_true rfl⟩ rfl (Nat.le_of_ble_eq_true rfl) (by decide +kernel) ?_
        exact g_iret (by decide +kernel) (by rw [xroom, if_pos zc11, sw_in (by decide) hj]; exact ⟨rfl, rfl⟩)
      | 4, hj =>
        refine g_tabI (dflt := 132) (lo := 0) (hi := 6) (offs := #[43, 56, 69, 82, 95, 107, 119]) (len := 43) (off := 95) (tgt := 112) (by decide +kernel) (by decide) (by decide) rfl (by decide) ?_
        refine g_blk (pc' := 117) (loc' := [some (vR (7, 0, 0)), some (vI a), some (vI (nI 4))]) (st' := [vI a, vR (2, 0, 0)]) (σ' := σ) fl4_ok [(112, .aload_n 0), (113, .getfield 10), (116, .iload_n 1)] (by decide +kernel) rfl rfl ?_
        refine g_callVp (2, 0, 0) [vI a] [] vl_RX4_151 mi_X1_needsDeepClean (c_X1_needsDeepClean l x0 a) rfl rfl rfl rfl ⟨Nat.le_of_ble_eq_true rfl, Nat.le_of_ble_eq_true rfl⟩ rfl (Nat.le_of_ble_eq_true rfl) (by decide +kernel) ?_
        refine g_callSp [vI (deepS (habs σ 0) a)] [] sl_RX4_73 mi_X4_bit (c_X4_bit l (deepS (habs σ 0) a)) rfl ⟨Nat.le_of_ble_eq_true rfl, Nat.le_of_ble_eq_true rfl⟩ rfl (Nat.le_of_ble_eq_true rfl) (by decide +kernel) ?_
        exact g_iret (by decide +kernel) (by rw [xroom, if_pos zc11, sw_in (by decide) hj]; exact ⟨rfl, rfl⟩)
      | 5, hj =>
        refine g_tabI (dflt := 132) (lo := 0) (hi := 6) (offs := #[43, 56, 69, 82, 95, 107, 119]) (len := 43) (off := 107) (tgt := 124) (by decide +kernel) (by decide) (by decide) rfl (by decide) ?_
        refine g_blk (pc' := 129) (loc' := [some (vR (7, 0, 0)), some (vI a), some (vI (nI 5))]) (st' := [vI a, vR (2, 0, 0)]) (σ' := σ) fl4_ok [(124, .aload_n 0), (125, .getfield 10), (128, .iload_n 1)] (by decide +kernel) rfl rfl ?_
        refine g_callVp (2, 0, 0) [vI a] [] vl_RX4_154 mi_X1_isDue (c_X1_isDue l x0 a) rfl rfl rfl rfl ⟨Nat.le_of_ble_eq_true rfl, Nat.le_of_ble_eq_true rfl⟩ rfl (Nat.le_of_ble_eq_true rfl) (by decide +kernel) ?_
        refine g_callSp [vI (dueS (habs σ 0) a)] [] sl_RX4_73 mi_X4_bit (c_X4_bit l (dueS (habs σ 0) a)) rfl ⟨Nat.le_of_ble_eq_true rfl, Nat.le_of_ble_eq_true rfl⟩ rfl (Nat.le_of_ble_eq_true rfl) (by decide +kernel) ?_
        exact g_iret (by decide +kernel) (by rw [xroom, if_pos zc11, sw_in (by decide) hj]; exact ⟨rfl, rfl⟩)
      | 6, hj =>
        refine g_tabI (dflt := 132) (lo := 0) (hi := 6) (offs := #[43, 56, 69, 82, 95, 107, 119]) (len := 43) (off := 119) (tgt := 136) (by decide +kernel) (by decide) (by decide) rfl (by decide) ?_
        refine g_blk (pc' := 145) (loc' := [some (vR (7, 0, 0)), some (vI a), some (vI (nI 6))]) (st' := [vI (4 : Int32), vI a, vR (0, 1, 0)]) (σ' := σ) fl4_ok [(136, .aload_n 0), (137, .getfield 10), (140, .getfield 77), (143, .iload_n 1), (144, .iconst 4)] (by decide +kernel) rfl rfl ?_
        refine g_callVp (0, 1, 0) [vI a, vI (4 : Int32)] [] vl_RX4_107 mi_X3_cell (ct_cell l x0 1 (by decide) a (4 : Int32)) rfl rfl rfl rfl ⟨Nat.le_of_ble_eq_true rfl, Nat.le_of_ble_eq_true rfl⟩ rfl (Nat.le_of_ble_eq_true rfl) (by decide +kernel) ?_
        exact g_iret (by decide +kernel) (by rw [xroom, if_pos zc11, sw_in (by decide) hj]; exact ⟨rfl, rfl⟩)
      | j + 7, hj => exact absurd hj (by omega)
  · refine g_blk (pc' := 15) (loc' := [some (vR (7, 0, 0)), some (vI a), some (vI w)]) (st' := [vI (-1 : Int32)]) (σ' := σ) fl4_ok [(14, .iconst (-1))] (by decide +kernel) rfl rfl ?_
    exact g_iret (by decide +kernel) (by rw [xroom, if_neg (not_not_intro zc11)]; exact ⟨rfl, rfl⟩)
set_option maxHeartbeats 2000000 in
theorem c_X4_task (l : Launch) {σ : Sg} (hX : XOK σ) (t w : Int32)  : Con l 1 yX4_task cX4_task 3 (some .int) [vR (7, 0, 0), vI t, vI w] σ (pureP (xtask (habs σ 0) t w) σ) := by
  refine con_of pn_X4_task (Nat.le_of_ble_eq_true rfl) (fun hPK hok => ?_)
  show G l (Rm 1) RX4 cX4_task 3 (some .int) _ 0 [some (vR (7, 0, 0)), some (vI t), some (vI w)] [] σ
  obtain ⟨x0, x1, x2, x3, x4, x5, x6⟩ := id hX
  refine g_blk (pc' := 8) (loc' := [some (vR (7, 0, 0)), some (vI t), some (vI w)]) (st' := [vI t, vR (0, 2, 0)]) (σ' := σ) fl4_ok [(0, .aload_n 0), (1, .getfield 10), (4, .getfield 98), (7, .iload_n 1)] (by decide +kernel) rfl rfl ?_
  refine g_callVp (0, 2, 0) [vI t] [] vl_RX4_55 mi_X3_has (ct_has l x0 2 (by decide) t) rfl rfl rfl rfl ⟨Nat.le_of_ble_eq_true rfl, Nat.le_of_ble_eq_true rfl⟩ rfl (Nat.le_of_ble_eq_true rfl) (by decide +kernel) ?_
  refine g_if_ne (off := 5) (tgt := 16) (by decide +kernel) (by decide) (fun zc11 => ?_) (fun zc11 => ?_)
  · refine g_blk (pc' := 17) (loc' := [some (vR (7, 0, 0)), some (vI t), some (vI w)]) (st' := [vI w]) (σ' := σ) fl4_ok [(16, .iload_n 2)] (by decide +kernel) rfl rfl ?_
    rcases pk_ix w (n := 5) (by decide) with zq | zq | ⟨j, hj, rfl⟩
    · refine g_tabO (dflt := 100) (lo := 0) (hi := 4) (offs := #[35, 48, 61, 74, 87]) (len := 35) (tgt := 117) (by decide +kernel) (Or.inl (tab_lo zq)) (by decide) ?_
      refine g_blk (pc' := 119) (loc' := [some (vR (7, 0, 0)), some (vI t), some (vI w)]) (st' := [vI (-2 : Int32)]) (σ' := σ) fl4_ok [(117, .bipush (-2))] (by decide +kernel) rfl rfl ?_
      exact g_iret (by decide +kernel) (by rw [xtask, if_pos zc11, sw_lo zq]; exact ⟨rfl, rfl⟩)
    · refine g_tabO (dflt := 100) (lo := 0) (hi := 4) (offs := #[35, 48, 61, 74, 87]) (len := 35) (tgt := 117) (by decide +kernel) (Or.inr (tab_hi 4 (by decide) zq)) (by decide) ?_
      refine g_blk (pc' := 119) (loc' := [some (vR (7, 0, 0)), some (vI t), some (vI w)]) (st' := [vI (-2 : Int32)]) (σ' := σ) fl4_ok [(117, .bipush (-2))] (by decide +kernel) rfl rfl ?_
      exact g_iret (by decide +kernel) (by rw [xtask, if_pos zc11, sw_hi zq]; exact ⟨rfl, rfl⟩)
    · match j, hj with
      | 0, hj =>
        refine g_tabI (dflt := 100) (lo := 0) (hi := 4) (offs := #[35, 48, 61, 74, 87]) (len := 35) (off := 35) (tgt := 52) (by decide +kernel) (by decide) (by decide) rfl (by decide) ?_
        refine g_blk (pc' := 61) (loc' := [some (vR (7, 0, 0)), some (vI t), some (vI (nI 0))]) (st' := [vI (0 : Int32), vI t, vR (0, 2, 0)]) (σ' := σ) fl4_ok [(52, .aload_n 0), (53, .getfield 10), (56, .getfield 98), (59, .iload_n 1), (60, .iconst 0)] (by decide +kernel) rfl rfl ?_
        refine g_callVp (0, 2, 0) [vI t, vI (0 : Int32)] [] vl_RX4_107 mi_X3_cell (ct_cell l x0 2 (by decide) t (0 : Int32)) rfl rfl rfl rfl ⟨Nat.le_of_ble_eq_true rfl, Nat.le_of_ble_eq_true rfl⟩ rfl (Nat.le_of_ble_eq_true rfl) (by decide +kernel) ?_
        exact g_iret (by decide +kernel) (by rw [xtask, if_pos zc11, sw_in (by decide) hj]; exact ⟨rfl, rfl⟩)
      | 1, hj =>
        refine g_tabI (dflt := 100) (lo := 0) (hi := 4) (offs := #[35, 48, 61, 74, 87]) (len := 35) (off := 48) (tgt := 65) (by decide +kernel) (by decide) (by decide) rfl (by decide) ?_
        refine g_blk (pc' := 74) (loc' := [some (vR (7, 0, 0)), some (vI t), some (vI (nI 1))]) (st' := [vI (1 : Int32), vI t, vR (0, 2, 0)]) (σ' := σ) fl4_ok [(65, .aload_n 0), (66, .getfield 10), (69, .getfield 98), (72, .iload_n 1), (73, .iconst 1)] (by decide +kernel) rfl rfl ?_
        refine g_callVp (0, 2, 0) [vI t, vI (1 : Int32)] [] vl_RX4_107 mi_X3_cell (ct_cell l x0 2 (by decide) t (1 : Int32)) rfl rfl rfl rfl ⟨Nat.le_of_ble_eq_true rfl, Nat.le_of_ble_eq_true rfl⟩ rfl (Nat.le_of_ble_eq_true rfl) (by decide +kernel) ?_
        exact g_iret (by decide +kernel) (by rw [xtask, if_pos zc11, sw_in (by decide) hj]; exact ⟨rfl, rfl⟩)
      | 2, hj =>
        refine g_tabI (dflt := 100) (lo := 0) (hi := 4) (offs := #[35, 48, 61, 74, 87]) (len := 35) (off := 61) (tgt := 78) (by decide +kernel) (by decide) (by decide) rfl (by decide) ?_
        refine g_blk (pc' := 87) (loc' := [some (vR (7, 0, 0)), some (vI t), some (vI (nI 2))]) (st' := [vI (2 : Int32), vI t, vR (0, 2, 0)]) (σ' := σ) fl4_ok [(78, .aload_n 0), (79, .getfield 10), (82, .getfield 98), (85, .iload_n 1), (86, .iconst 2)] (by decide +kernel) rfl rfl ?_
        refine g_callVp (0, 2, 0) [vI t, vI (2 : Int32)] [] vl_RX4_107 mi_X3_cell (ct_cell l x0 2 (by decide) t (2 : Int32)) rfl rfl rfl rfl ⟨Nat.le_of_ble_eq_true rfl, Nat.le_of_ble_eq_true rfl⟩ rfl (Nat.le_of_ble_eq_true rfl) (by decide +kernel) ?_
        exact g_iret (by decide +kernel) (by rw [xtask, if_pos zc11, sw_in (by decide) hj]; exact ⟨rfl, rfl⟩)
      | 3, hj =>
        refine g_tabI (dflt := 100) (lo := 0) (hi := 4) (offs := #[35, 48, 61, 74, 87]) (len := 35) (off := 74) (tgt := 91) (by decide +kernel) (by decide) (by decide) rfl (by decide) ?_
        refine g_blk (pc' := 100) (loc' := [some (vR (7, 0, 0)), some (vI t), some (vI (nI 3))]) (st' := [vI (3 : Int32), vI t, vR (0, 2, 0)]) (σ' := σ) fl4_ok [(91, .aload_n 0), (92, .getfield 10), (95, .getfield 98), (98, .iload_n 1), (99, .iconst 3)] (by decide +kernel) rfl rfl ?_
        refine g_callVp (0, 2, 0) [vI t, vI (3 : Int32)] [] vl_RX4_107 mi_X3_cell (ct_cell l x0 2 (by decide) t (3 : Int32)) rfl rfl rfl rfl ⟨Nat.le_of_ble_eq_true rfl, Nat.le_of_ble_eq_true rfl⟩ rfl (Nat.le_of_ble_eq_true rfl) (by decide +kernel) ?_
        exact g_iret (by decide +kernel) (by rw [xtask, if_pos zc11, sw_in (by decide) hj]; exact ⟨rfl, rfl⟩)
      | 4, hj =>
        refine g_tabI (dflt := 100) (lo := 0) (hi := 4) (offs := #[35, 48, 61, 74, 87]) (len := 35) (off := 87) (tgt := 104) (by decide +kernel) (by decide) (by decide) rfl (by decide) ?_
        refine g_blk (pc' := 113) (loc' := [some (vR (7, 0, 0)), some (vI t), some (vI (nI 4))]) (st' := [vI (4 : Int32), vI t, vR (0, 2, 0)]) (σ' := σ) fl4_ok [(104, .aload_n 0), (105, .getfield 10), (108, .getfield 98), (111, .iload_n 1), (112, .iconst 4)] (by decide +kernel) rfl rfl ?_
        refine g_callVp (0, 2, 0) [vI t, vI (4 : Int32)] [] vl_RX4_107 mi_X3_cell (ct_cell l x0 2 (by decide) t (4 : Int32)) rfl rfl rfl rfl ⟨Nat.le_of_ble_eq_true rfl, Nat.le_of_ble_eq_true rfl⟩ rfl (Nat.le_of_ble_eq_true rfl) (by decide +kernel) ?_
        exact g_iret (by decide +kernel) (by rw [xtask, if_pos zc11, sw_in (by decide) hj]; exact ⟨rfl, rfl⟩)
      | j + 5, hj => exact absurd hj (by omega)
  · refine g_blk (pc' := 15) (loc' := [some (vR (7, 0, 0)), some (vI t), some (vI w)]) (st' := [vI (-1 : Int32)]) (σ' := σ) fl4_ok [(14, .iconst (-1))] (by decide +kernel) rfl rfl ?_
    exact g_iret (by decide +kernel) (by rw [xtask, if_neg (not_not_intro zc11)]; exact ⟨rfl, rfl⟩)
set_option maxHeartbeats 2000000 in
theorem c_X4_swap (l : Launch) {σ : Sg} (hX : XOK σ) (s w : Int32)  : Con l 1 yX4_swap cX4_swap 5 (some .int) [vR (7, 0, 0), vI s, vI w] σ (pureP (xswap (habs σ 0) s w) σ) := by
  refine con_of pn_X4_swap (Nat.le_of_ble_eq_true rfl) (fun hPK hok => ?_)
  show G l (Rm 1) RX4 cX4_swap 5 (some .int) _ 0 [some (vR (7, 0, 0)), some (vI s), some (vI w), none, none] [] σ
  obtain ⟨x0, x1, x2, x3, x4, x5, x6⟩ := id hX
  refine g_blk (pc' := 8) (loc' := [some (vR (7, 0, 0)), some (vI s), some (vI w), none, none]) (st' := [vI s, vR (0, 3, 0)]) (σ' := σ) fl4_ok [(0, .aload_n 0), (1, .getfield 10), (4, .getfield 127), (7, .iload_n 1)] (by decide +kernel) rfl rfl ?_
  refine g_callVp (0, 3, 0) [vI s] [] vl_RX4_55 mi_X3_has (ct_has l x0 3 (by decide) s) rfl rfl rfl rfl ⟨Nat.le_of_ble_eq_true rfl, Nat.le_of_ble_eq_true rfl⟩ rfl (Nat.le_of_ble_eq_true rfl) (by decide +kernel) ?_
  refine g_if_ne (off := 5) (tgt := 16) (by decide +kernel) (by decide) (fun zc11 => ?_) (fun zc11 => ?_)
  · refine g_blk (pc' := 25) (loc' := [some (vR (7, 0, 0)), some (vI s), some (vI w), none, none]) (st' := [vI (0 : Int32), vI s, vR (0, 3, 0)]) (σ' := σ) fl4_ok [(16, .aload_n 0), (17, .getfield 10), (20, .getfield 127), (23, .iload_n 1), (24, .iconst 0)] (by decide +kernel) rfl rfl ?_
    refine g_callVp (0, 3, 0) [vI s, vI (0 : Int32)] [] vl_RX4_107 mi_X3_cell (ct_cell l x0 3 (by decide) s (0 : Int32)) rfl rfl rfl rfl ⟨Nat.le_of_ble_eq_true rfl, Nat.le_of_ble_eq_true rfl⟩ rfl (Nat.le_of_ble_eq_true rfl) (by decide +kernel) ?_
    refine g_blk (pc' := 38) (loc' := [some (vR (7, 0, 0)), some (vI s), some (vI w), some (vI (cl (habs σ 0) 3 s (0 : Int32))), none]) (st' := [vI (1 : Int32), vI s, vR (0, 3, 0)]) (σ' := σ) fl4_ok [(28, .istore_n 3), (29, .aload_n 0), (30, .getfield 10), (33, .getfield 127), (36, .iload_n 1), (37, .iconst 1)] (by decide +kernel) rfl rfl ?_
    refine g_callVp (0, 3, 0) [vI s, vI (1 : Int32)] [] vl_RX4_107 mi_X3_cell (ct_cell l x0 3 (by decide) s (1 : Int32)) rfl rfl rfl rfl ⟨Nat.le_of_ble_eq_true rfl, Nat.le_of_ble_eq_true rfl⟩ rfl (Nat.le_of_ble_eq_true rfl) (by decide +kernel) ?_
    refine g_blk (pc' := 44) (loc' := [some (vR (7, 0, 0)), some (vI s), some (vI w), some (vI (cl (habs σ 0) 3 s (0 : Int32))), some (vI (cl (habs σ 0) 3 s (1 : Int32)))]) (st' := [vI w]) (σ' := σ) fl4_ok [(41, .istore 4), (43, .iload_n 2)] (by decide +kernel) rfl rfl ?_
    rcases pk_ix w (n := 4) (by decide) with zq | zq | ⟨j, hj, rfl⟩
    · refine g_tabO (dflt := 64) (lo := 0) (hi := 3) (offs := #[32, 34, 37, 50]) (len := 32) (tgt := 108) (by decide +kernel) (Or.inl (tab_lo zq)) (by decide) ?_
      refine g_blk (pc' := 110) (loc' := [some (vR (7, 0, 0)), some (vI s), some (vI w), some (vI (cl (habs σ 0) 3 s (0 : Int32))), some (vI (cl (habs σ 0) 3 s (1 : Int32)))]) (st' := [vI (-2 : Int32)]) (σ' := σ) fl4_ok [(108, .bipush (-2))] (by decide +kernel) rfl rfl ?_
      exact g_iret (by decide +kernel) (by rw [xswap, if_pos zc11, sw_lo zq]; exact ⟨rfl, rfl⟩)
    · refine g_tabO (dflt := 64) (lo := 0) (hi := 3) (offs := #[32, 34, 37, 50]) (len := 32) (tgt := 108) (by decide +kernel) (Or.inr (tab_hi 3 (by decide) zq)) (by decide) ?_
      refine g_blk (pc' := 110) (loc' := [some (vR (7, 0, 0)), some (vI s), some (vI w), some (vI (cl (habs σ 0) 3 s (0 : Int32))), some (vI (cl (habs σ 0) 3 s (1 : Int32)))]) (st' := [vI (-2 : Int32)]) (σ' := σ) fl4_ok [(108, .bipush (-2))] (by decide +kernel) rfl rfl ?_
      exact g_iret (by decide +kernel) (by rw [xswap, if_pos zc11, sw_hi zq]; exact ⟨rfl, rfl⟩)
    · match j, hj with
      | 0, hj =>
        refine g_tabI (dflt := 64) (lo := 0) (hi := 3) (offs := #[32, 34, 37, 50]) (len := 32) (off := 32) (tgt := 76) (by decide +kernel) (by decide) (by decide) rfl (by decide) ?_
        refine g_blk (pc' := 77) (loc' := [some (vR (7, 0, 0)), some (vI s), some (vI (nI 0)), some (vI (cl (habs σ 0) 3 s (0 : Int32))), some (vI (cl (habs σ 0) 3 s (1 : Int32)))]) (st' := [vI (cl (habs σ 0) 3 s (0 : Int32))]) (σ' := σ) fl4_ok [(76, .iload_n 3)] (by decide +kernel) rfl rfl ?_
        exact g_iret (by decide +kernel) (by rw [xswap, if_pos zc11, sw_in (by decide) hj]; exact ⟨rfl, rfl⟩)
      | 1, hj =>
        refine g_tabI (dflt := 64) (lo := 0) (hi := 3) (offs := #[32, 34, 37, 50]) (len := 32) (off := 34) (tgt := 78) (by decide +kernel) (by decide) (by decide) rfl (by decide) ?_
        refine g_blk (pc' := 80) (loc' := [some (vR (7, 0, 0)), some (vI s), some (vI (nI 1)), some (vI (cl (habs σ 0) 3 s (0 : Int32))), some (vI (cl (habs σ 0) 3 s (1 : Int32)))]) (st' := [vI (cl (habs σ 0) 3 s (1 : Int32))]) (σ' := σ) fl4_ok [(78, .iload 4)] (by decide +kernel) rfl rfl ?_
        exact g_iret (by decide +kernel) (by rw [xswap, if_pos zc11, sw_in (by decide) hj]; exact ⟨rfl, rfl⟩)
      | 2, hj =>
        refine g_tabI (dflt := 64) (lo := 0) (hi := 3) (offs := #[32, 34, 37, 50]) (len := 32) (off := 37) (tgt := 81) (by decide +kernel) (by decide) (by decide) rfl (by decide) ?_
        refine g_blk (pc' := 90) (loc' := [some (vR (7, 0, 0)), some (vI s), some (vI (nI 2)), some (vI (cl (habs σ 0) 3 s (0 : Int32))), some (vI (cl (habs σ 0) 3 s (1 : Int32)))]) (st' := [vI (1 : Int32), vI (cl (habs σ 0) 3 s (0 : Int32)), vR (0, 2, 0)]) (σ' := σ) fl4_ok [(81, .aload_n 0), (82, .getfield 10), (85, .getfield 98), (88, .iload_n 3), (89, .iconst 1)] (by decide +kernel) rfl rfl ?_
        refine g_callVp (0, 2, 0) [vI (cl (habs σ 0) 3 s (0 : Int32)), vI (1 : Int32)] [] vl_RX4_107 mi_X3_cell (ct_cell l x0 2 (by decide) (cl (habs σ 0) 3 s (0 : Int32)) (1 : Int32)) rfl rfl rfl rfl ⟨Nat.le_of_ble_eq_true rfl, Nat.le_of_ble_eq_true rfl⟩ rfl (Nat.le_of_ble_eq_true rfl) (by decide +kernel) ?_
        exact g_iret (by decide +kernel) (by rw [xswap, if_pos zc11, sw_in (by decide) hj]; exact ⟨rfl, rfl⟩)
      | 3, hj =>
        refine g_tabI (dflt := 64) (lo := 0) (hi := 3) (offs := #[32, 34, 37, 50]) (len := 32) (off := 50) (tgt := 94) (by decide +kernel) (by decide) (by decide) rfl (by decide) ?_
        refine g_blk (pc' := 104) (loc' := [some (vR (7, 0, 0)), some (vI s), some (vI (nI 3)), some (vI (cl (habs σ 0) 3 s (0 : Int32))), some (vI (cl (habs σ 0) 3 s (1 : Int32)))]) (st' := [vI (1 : Int32), vI (cl (habs σ 0) 3 s (1 : Int32)), vR (0, 2, 0)]) (σ' := σ) fl4_ok [(94, .aload_n 0), (95, .getfield 10), (98, .getfield 98), (101, .iload 4), (103, .iconst 1)] (by decide +kernel) rfl rfl ?_
        refine g_callVp (0, 2, 0) [vI (cl (habs σ 0) 3 s (1 : Int32)), vI (1 : Int32)] [] vl_RX4_107 mi_X3_cell (ct_cell l x0 2 (by decide) (cl (habs σ 0) 3 s (1 : Int32)) (1 : Int32)) rfl rfl rfl rfl ⟨Nat.le_of_ble_eq_true rfl, Nat.le_of_ble_eq_true rfl⟩ rfl (Nat.le_of_ble_eq_true rfl) (by decide +kernel) ?_
        exact g_iret (by decide +kernel) (by rw [xswap, if_pos zc11, sw_in (by decide) hj]; exact ⟨rfl, rfl⟩)
      | j + 4, hj => exact absurd hj (by omega)
  · refine g_blk (pc' := 15) (loc' := [some (vR (7, 0, 0)), some (vI s), some (vI w), none, none]) (st' := [vI (-1 : Int32)]) (σ' := σ) fl4_ok [(14, .iconst (-1))] (by decide +kernel) rfl rfl ?_
    exact g_iret (by decide +kernel) (by rw [xswap, if_neg (not_not_intro zc11)]; exact ⟨rfl, rfl⟩)
set_option maxHeartbeats 2000000 in
theorem c_X4_count (l : Launch) {σ : Sg} (hX : XOK σ) (w : Int32)  : Con l 4 yX4_count cX4_count 2 (some .int) [vR (7, 0, 0), vI w] σ (pureP (xcount (habs σ 0) (hist σ) (pv σ) w) σ) := by
  refine con_of pn_X4_count (Nat.le_of_ble_eq_true rfl) (fun hPK hok => ?_)
  show G l (Rm 4) RX4 cX4_count 2 (some .int) _ 0 [some (vR (7, 0, 0)), some (vI w)] [] σ
  obtain ⟨x0, x1, x2, x3, x4, x5, x6⟩ := id hX
  refine g_blk (pc' := 1) (loc' := [some (vR (7, 0, 0)), some (vI w)]) (st' := [vI w]) (σ' := σ) fl4_ok [(0, .iload_n 1)] (by decide +kernel) rfl rfl ?_
  rcases pk_ix w (n := 17) (by decide) with zq | zq | ⟨j, hj, rfl⟩
  · refine g_tabO (dflt := 254) (lo := 0) (hi := 16) (offs := #[83, 91, 102, 113, 124, 132, 140, 148, 159, 170, 178, 186, 194, 202, 215, 228, 241]) (len := 83) (tgt := 255) (by decide +kernel) (Or.inl (tab_lo zq)) (by decide) ?_
    refine g_blk (pc' := 257) (loc' := [some (vR (7, 0, 0)), some (vI w)]) (st' := [vI (-2 : Int32)]) (σ' := σ) fl4_ok [(255, .bipush (-2))] (by decide +kernel) rfl rfl ?_
    exact g_iret (by decide +kernel) (by rw [xcount, sw_lo zq]; exact ⟨rfl, rfl⟩)
  · refine g_tabO (dflt := 254) (lo := 0) (hi := 16) (offs := #[83, 91, 102, 113, 124, 132, 140, 148, 159, 170, 178, 186, 194, 202, 215, 228, 241]) (len := 83) (tgt := 255) (by decide +kernel) (Or.inr (tab_hi 16 (by decide) zq)) (by decide) ?_
    refine g_blk (pc' := 257) (loc' := [some (vR (7, 0, 0)), some (vI w)]) (st' := [vI (-2 : Int32)]) (σ' := σ) fl4_ok [(255, .bipush (-2))] (by decide +kernel) rfl rfl ?_
    exact g_iret (by decide +kernel) (by rw [xcount, sw_hi zq]; exact ⟨rfl, rfl⟩)
  · match j, hj with
    | 0, hj =>
      refine g_tabI (dflt := 254) (lo := 0) (hi := 16) (offs := #[83, 91, 102, 113, 124, 132, 140, 148, 159, 170, 178, 186, 194, 202, 215, 228, 241]) (len := 83) (off := 83) (tgt := 84) (by decide +kernel) (by decide) (by decide) rfl (by decide) ?_
      refine g_blk (pc' := 91) (loc' := [some (vR (7, 0, 0)), some (vI (nI 0))]) (st' := [vI ((habs σ 0).2 5)]) (σ' := σ) fl4_ok [(84, .aload_n 0), (85, .getfield 10), (88, .getfield 114)] (by decide +kernel) rfl rfl ?_
      exact g_iret (by decide +kernel) (by rw [xcount, sw_in (by decide) hj]; exact ⟨rfl, rfl⟩)
    | 1, hj =>
      refine g_tabI (dflt := 254) (lo := 0) (hi := 16) (offs := #[83, 91, 102, 113, 124, 132, 140, 148, 159, 170, 178, 186, 194, 202, 215, 228, 241]) (len := 83) (off := 91) (tgt := 92) (by decide +kernel) (by decide) (by decide) rfl (by decide) ?_
      refine g_blk (pc' := 99) (loc' := [some (vR (7, 0, 0)), some (vI (nI 1))]) (st' := [vR (0, 0, 0)]) (σ' := σ) fl4_ok [(92, .aload_n 0), (93, .getfield 10), (96, .getfield 37)] (by decide +kernel) rfl rfl ?_
      refine g_callVp (0, 0, 0) [] [] vl_RX4_157 mi_X3_size (ct_size l x0 0 (by decide)) rfl rfl rfl rfl ⟨Nat.le_of_ble_eq_true rfl, Nat.le_of_ble_eq_true rfl⟩ rfl (Nat.le_of_ble_eq_true rfl) (by decide +kernel) ?_
      exact g_iret (by decide +kernel) (by rw [xcount, sw_in (by decide) hj]; exact ⟨rfl, rfl⟩)
    | 2, hj =>
      refine g_tabI (dflt := 254) (lo := 0) (hi := 16) (offs := #[83, 91, 102, 113, 124, 132, 140, 148, 159, 170, 178, 186, 194, 202, 215, 228, 241]) (len := 83) (off := 102) (tgt := 103) (by decide +kernel) (by decide) (by decide) rfl (by decide) ?_
      refine g_blk (pc' := 110) (loc' := [some (vR (7, 0, 0)), some (vI (nI 2))]) (st' := [vR (0, 1, 0)]) (σ' := σ) fl4_ok [(103, .aload_n 0), (104, .getfield 10), (107, .getfield 77)] (by decide +kernel) rfl rfl ?_
      refine g_callVp (0, 1, 0) [] [] vl_RX4_157 mi_X3_size (ct_size l x0 1 (by decide)) rfl rfl rfl rfl ⟨Nat.le_of_ble_eq_true rfl, Nat.le_of_ble_eq_true rfl⟩ rfl (Nat.le_of_ble_eq_true rfl) (by decide +kernel) ?_
      exact g_iret (by decide +kernel) (by rw [xcount, sw_in (by decide) hj]; exact ⟨rfl, rfl⟩)
    | 3, hj =>
      refine g_tabI (dflt := 254) (lo := 0) (hi := 16) (offs := #[83, 91, 102, 113, 124, 132, 140, 148, 159, 170, 178, 186, 194, 202, 215, 228, 241]) (len := 83) (off := 113) (tgt := 114) (by decide +kernel) (by decide) (by decide) rfl (by decide) ?_
      refine g_blk (pc' := 121) (loc' := [some (vR (7, 0, 0)), some (vI (nI 3))]) (st' := [vR (0, 2, 0)]) (σ' := σ) fl4_ok [(114, .aload_n 0), (115, .getfield 10), (118, .getfield 98)] (by decide +kernel) rfl rfl ?_
      refine g_callVp (0, 2, 0) [] [] vl_RX4_157 mi_X3_size (ct_size l x0 2 (by decide)) rfl rfl rfl rfl ⟨Nat.le_of_ble_eq_true rfl, Nat.le_of_ble_eq_true rfl⟩ rfl (Nat.le_of_ble_eq_true rfl) (by decide +kernel) ?_
      exact g_iret (by decide +kernel) (by rw [xcount, sw_in (by decide) hj]; exact ⟨rfl, rfl⟩)
    | 4, hj =>
      refine g_tabI (dflt := 254) (lo := 0) (hi := 16) (offs := #[83, 91, 102, 113, 124, 132, 140, 148, 159, 170, 178, 186, 194, 202, 215, 228, 241]) (len := 83) (off := 124) (tgt := 125) (by decide +kernel) (by decide) (by decide) rfl (by decide) ?_
      refine g_blk (pc' := 129) (loc' := [some (vR (7, 0, 0)), some (vI (nI 4))]) (st' := [vR (2, 0, 0)]) (σ' := σ) fl4_ok [(125, .aload_n 0), (126, .getfield 10)] (by decide +kernel) rfl rfl ?_
      refine g_callVp (2, 0, 0) [] [] vl_RX4_160 mi_X1_countOpenTasks (c_X1_countOpenTasks l x0) rfl rfl rfl rfl ⟨Nat.le_of_ble_eq_true rfl, Nat.le_of_ble_eq_true rfl⟩ rfl (Nat.le_of_ble_eq_true rfl) (by decide +kernel) ?_
      exact g_iret (by decide +kernel) (by rw [xcount, sw_in (by decide) hj]; exact ⟨rfl, rfl⟩)
    | 5, hj =>
      refine g_tabI (dflt := 254) (lo := 0) (hi := 16) (offs := #[83, 91, 102, 113, 124, 132, 140, 148, 159, 170, 178, 186, 194, 202, 215, 228, 241]) (len := 83) (off := 132) (tgt := 133) (by decide +kernel) (by decide) (by decide) rfl (by decide) ?_
      refine g_blk (pc' := 140) (loc' := [some (vR (7, 0, 0)), some (vI (nI 5))]) (st' := [vI ((habs σ 0).2 7)]) (σ' := σ) fl4_ok [(133, .aload_n 0), (134, .getfield 10), (137, .getfield 163)] (by decide +kernel) rfl rfl ?_
      exact g_iret (by decide +kernel) (by rw [xcount, sw_in (by decide) hj]; exact ⟨rfl, rfl⟩)
    | 6, hj =>
      refine g_tabI (dflt := 254) (lo := 0) (hi := 16) (offs := #[83, 91, 102, 113, 124, 132, 140, 148, 159, 170, 178, 186, 194, 202, 215, 228, 241]) (len := 83) (off := 140) (tgt := 141) (by decide +kernel) (by decide) (by decide) rfl (by decide) ?_
      refine g_blk (pc' := 148) (loc' := [some (vR (7, 0, 0)), some (vI (nI 6))]) (st' := [vI ((habs σ 0).2 8)]) (σ' := σ) fl4_ok [(141, .aload_n 0), (142, .getfield 10), (145, .getfield 166)] (by decide +kernel) rfl rfl ?_
      exact g_iret (by decide +kernel) (by rw [xcount, sw_in (by decide) hj]; exact ⟨rfl, rfl⟩)
    | 7, hj =>
      refine g_tabI (dflt := 254) (lo := 0) (hi := 16) (offs := #[83, 91, 102, 113, 124, 132, 140, 148, 159, 170, 178, 186, 194, 202, 215, 228, 241]) (len := 83) (off := 148) (tgt := 149) (by decide +kernel) (by decide) (by decide) rfl (by decide) ?_
      refine g_blk (pc' := 156) (loc' := [some (vR (7, 0, 0)), some (vI (nI 7))]) (st' := [vR (0, 3, 0)]) (σ' := σ) fl4_ok [(149, .aload_n 0), (150, .getfield 10), (153, .getfield 127)] (by decide +kernel) rfl rfl ?_
      refine g_callVp (0, 3, 0) [] [] vl_RX4_157 mi_X3_size (ct_size l x0 3 (by decide)) rfl rfl rfl rfl ⟨Nat.le_of_ble_eq_true rfl, Nat.le_of_ble_eq_true rfl⟩ rfl (Nat.le_of_ble_eq_true rfl) (by decide +kernel) ?_
      exact g_iret (by decide +kernel) (by rw [xcount, sw_in (by decide) hj]; exact ⟨rfl, rfl⟩)
    | 8, hj =>
      refine g_tabI (dflt := 254) (lo := 0) (hi := 16) (offs := #[83, 91, 102, 113, 124, 132, 140, 148, 159, 170, 178, 186, 194, 202, 215, 228, 241]) (len := 83) (off := 159) (tgt := 160) (by decide +kernel) (by decide) (by decide) rfl (by decide) ?_
      refine g_blk (pc' := 167) (loc' := [some (vR (7, 0, 0)), some (vI (nI 8))]) (st' := [vI ((habs σ 0).2 6)]) (σ' := σ) fl4_ok [(160, .aload_n 0), (161, .getfield 10), (164, .getfield 90)] (by decide +kernel) rfl rfl ?_
      refine g_callSp [vI ((habs σ 0).2 6)] [] sl_RX4_73 mi_X4_bit (c_X4_bit l ((habs σ 0).2 6)) rfl ⟨Nat.le_of_ble_eq_true rfl, Nat.le_of_ble_eq_true rfl⟩ rfl (Nat.le_of_ble_eq_true rfl) (by decide +kernel) ?_
      exact g_iret (by decide +kernel) (by rw [xcount, sw_in (by decide) hj]; exact ⟨rfl, rfl⟩)
    | 9, hj =>
      refine g_tabI (dflt := 254) (lo := 0) (hi := 16) (offs := #[83, 91, 102, 113, 124, 132, 140, 148, 159, 170, 178, 186, 194, 202, 215, 228, 241]) (len := 83) (off := 170) (tgt := 171) (by decide +kernel) (by decide) (by decide) rfl (by decide) ?_
      refine g_blk (pc' := 175) (loc' := [some (vR (7, 0, 0)), some (vI (nI 9))]) (st' := [vR (2, 0, 0)]) (σ' := σ) fl4_ok [(171, .aload_n 0), (172, .getfield 10)] (by decide +kernel) rfl rfl ?_
      refine g_callVp (2, 0, 0) [] [] vl_RX4_169 mi_X1_spread (c_X1_spread l x0) rfl rfl rfl rfl ⟨Nat.le_of_ble_eq_true rfl, Nat.le_of_ble_eq_true rfl⟩ rfl (Nat.le_of_ble_eq_true rfl) (by decide +kernel) ?_
      exact g_iret (by decide +kernel) (by rw [xcount, sw_in (by decide) hj]; exact ⟨rfl, rfl⟩)
    | 10, hj =>
      refine g_tabI (dflt := 254) (lo := 0) (hi := 16) (offs := #[83, 91, 102, 113, 124, 132, 140, 148, 159, 170, 178, 186, 194, 202, 215, 228, 241]) (len := 83) (off := 178) (tgt := 179) (by decide +kernel) (by decide) (by decide) rfl (by decide) ?_
      refine g_blk (pc' := 183) (loc' := [some (vR (7, 0, 0)), some (vI (nI 10))]) (st' := [vR (2, 0, 0)]) (σ' := σ) fl4_ok [(179, .aload_n 0), (180, .getfield 10)] (by decide +kernel) rfl rfl ?_
      refine g_callVp (2, 0, 0) [] [] vl_RX4_172 mi_X1_plannedSpread (c_X1_plannedSpread l x0) rfl rfl rfl rfl ⟨Nat.le_of_ble_eq_true rfl, Nat.le_of_ble_eq_true rfl⟩ rfl (Nat.le_of_ble_eq_true rfl) (by decide +kernel) ?_
      exact g_iret (by decide +kernel) (by rw [xcount, sw_in (by decide) hj]; exact ⟨rfl, rfl⟩)
    | 11, hj =>
      refine g_tabI (dflt := 254) (lo := 0) (hi := 16) (offs := #[83, 91, 102, 113, 124, 132, 140, 148, 159, 170, 178, 186, 194, 202, 215, 228, 241]) (len := 83) (off := 186) (tgt := 187) (by decide +kernel) (by decide) (by decide) rfl (by decide) ?_
      refine g_blk (pc' := 194) (loc' := [some (vR (7, 0, 0)), some (vI (nI 11))]) (st' := [vI (σ.1 (5, 0, 0) 1)]) (σ' := σ) fl4_ok [(187, .aload_n 0), (188, .getfield 29), (191, .getfield 175)] (by decide +kernel) rfl rfl ?_
      exact g_iret (by decide +kernel) (by rw [xcount, sw_in (by decide) hj]; rw [x3.2]; exact ⟨rfl, rfl⟩)
    | 12, hj =>
      refine g_tabI (dflt := 254) (lo := 0) (hi := 16) (offs := #[83, 91, 102, 113, 124, 132, 140, 148, 159, 170, 178, 186, 194, 202, 215, 228, 241]) (len := 83) (off := 194) (tgt := 195) (by decide +kernel) (by decide) (by decide) rfl (by decide) ?_
      refine g_blk (pc' := 202) (loc' := [some (vR (7, 0, 0)), some (vI (nI 12))]) (st' := [vI (σ.1 (3, 0, 0) 1)]) (σ' := σ) fl4_ok [(195, .aload_n 0), (196, .getfield 22), (199, .getfield 178)] (by decide +kernel) rfl rfl ?_
      exact g_iret (by decide +kernel) (by rw [xcount, sw_in (by decide) hj, x2.2.1, show (hist σ).length = hN σ from by rw [hist, List.length_map, List.length_range]]; exact ⟨rfl, rfl⟩)
    | 13, hj =>
      refine g_tabI (dflt := 254) (lo := 0) (hi := 16) (offs := #[83, 91, 102, 113, 124, 132, 140, 148, 159, 170, 178, 186, 194, 202, 215, 228, 241]) (len := 83) (off := 202) (tgt := 203) (by decide +kernel) (by decide) (by decide) rfl (by decide) ?_
      refine g_blk (pc' := 212) (loc' := [some (vR (7, 0, 0)), some (vI (nI 13))]) (st' := [vI (0 : Int32), vI (0 : Int32), vR (0, 4, 0)]) (σ' := σ) fl4_ok [(203, .aload_n 0), (204, .getfield 10), (207, .getfield 87), (210, .iconst 0), (211, .iconst 0)] (by decide +kernel) rfl rfl ?_
      refine g_callVp (0, 4, 0) [vI (0 : Int32), vI (0 : Int32)] [] vl_RX4_107 mi_X3_cell (ct_cell l x0 4 (by decide) (0 : Int32) (0 : Int32)) rfl rfl rfl rfl ⟨Nat.le_of_ble_eq_true rfl, Nat.le_of_ble_eq_true rfl⟩ rfl (Nat.le_of_ble_eq_true rfl) (by decide +kernel) ?_
      exact g_iret (by decide +kernel) (by rw [xcount, sw_in (by decide) hj]; exact ⟨rfl, rfl⟩)
    | 14, hj =>
      refine g_tabI (dflt := 254) (lo := 0) (hi := 16) (offs := #[83, 91, 102, 113, 124, 132, 140, 148, 159, 170, 178, 186, 194, 202, 215, 228, 241]) (len := 83) (off := 215) (tgt := 216) (by decide +kernel) (by decide) (by decide) rfl (by decide) ?_
      refine g_blk (pc' := 225) (loc' := [some (vR (7, 0, 0)), some (vI (nI 14))]) (st' := [vI (1 : Int32), vI (0 : Int32), vR (0, 4, 0)]) (σ' := σ) fl4_ok [(216, .aload_n 0), (217, .getfield 10), (220, .getfield 87), (223, .iconst 0), (224, .iconst 1)] (by decide +kernel) rfl rfl ?_
      refine g_callVp (0, 4, 0) [vI (0 : Int32), vI (1 : Int32)] [] vl_RX4_107 mi_X3_cell (ct_cell l x0 4 (by decide) (0 : Int32) (1 : Int32)) rfl rfl rfl rfl ⟨Nat.le_of_ble_eq_true rfl, Nat.le_of_ble_eq_true rfl⟩ rfl (Nat.le_of_ble_eq_true rfl) (by decide +kernel) ?_
      exact g_iret (by decide +kernel) (by rw [xcount, sw_in (by decide) hj]; exact ⟨rfl, rfl⟩)
    | 15, hj =>
      refine g_tabI (dflt := 254) (lo := 0) (hi := 16) (offs := #[83, 91, 102, 113, 124, 132, 140, 148, 159, 170, 178, 186, 194, 202, 215, 228, 241]) (len := 83) (off := 228) (tgt := 229) (by decide +kernel) (by decide) (by decide) rfl (by decide) ?_
      refine g_blk (pc' := 238) (loc' := [some (vR (7, 0, 0)), some (vI (nI 15))]) (st' := [vI (2 : Int32), vI (0 : Int32), vR (0, 4, 0)]) (σ' := σ) fl4_ok [(229, .aload_n 0), (230, .getfield 10), (233, .getfield 87), (236, .iconst 0), (237, .iconst 2)] (by decide +kernel) rfl rfl ?_
      refine g_callVp (0, 4, 0) [vI (0 : Int32), vI (2 : Int32)] [] vl_RX4_107 mi_X3_cell (ct_cell l x0 4 (by decide) (0 : Int32) (2 : Int32)) rfl rfl rfl rfl ⟨Nat.le_of_ble_eq_true rfl, Nat.le_of_ble_eq_true rfl⟩ rfl (Nat.le_of_ble_eq_true rfl) (by decide +kernel) ?_
      exact g_iret (by decide +kernel) (by rw [xcount, sw_in (by decide) hj]; exact ⟨rfl, rfl⟩)
    | 16, hj =>
      refine g_tabI (dflt := 254) (lo := 0) (hi := 16) (offs := #[83, 91, 102, 113, 124, 132, 140, 148, 159, 170, 178, 186, 194, 202, 215, 228, 241]) (len := 83) (off := 241) (tgt := 242) (by decide +kernel) (by decide) (by decide) rfl (by decide) ?_
      refine g_blk (pc' := 251) (loc' := [some (vR (7, 0, 0)), some (vI (nI 16))]) (st' := [vI (3 : Int32), vI (0 : Int32), vR (0, 4, 0)]) (σ' := σ) fl4_ok [(242, .aload_n 0), (243, .getfield 10), (246, .getfield 87), (249, .iconst 0), (250, .iconst 3)] (by decide +kernel) rfl rfl ?_
      refine g_callVp (0, 4, 0) [vI (0 : Int32), vI (3 : Int32)] [] vl_RX4_107 mi_X3_cell (ct_cell l x0 4 (by decide) (0 : Int32) (3 : Int32)) rfl rfl rfl rfl ⟨Nat.le_of_ble_eq_true rfl, Nat.le_of_ble_eq_true rfl⟩ rfl (Nat.le_of_ble_eq_true rfl) (by decide +kernel) ?_
      exact g_iret (by decide +kernel) (by rw [xcount, sw_in (by decide) hj]; exact ⟨rfl, rfl⟩)
    | j + 17, hj => exact absurd hj (by omega)
end
section
/-! THE ROTA: texts, undo, forecasts (laid by wip/whole/mk17.py) -/
theorem x_pad {σ σ' : Sg} (hX : XOK σ) (hP : PadOK σ') (hF : FrP σ σ') : XW (habs σ 0, (hist σ, pv σ')) σ σ' := by
  obtain ⟨x0, x1, x2, x3, x4, x5, x6⟩ := hX
  have hh : ∀ h, habs σ' h = habs σ h ∧ (HOK σ h → HOK σ' h) := fun h => habs_of (fun j => hF.1 _ (by simp) (by simp)) (fun j => hF.1 _ (by simp) (by simp)) (hF.1 _ (by simp) (by simp))
  have e3 : σ'.1 (3, 0, 0) = σ.1 (3, 0, 0) := hF.1 _ (by simp) (by simp)
  have en : hN σ' = hN σ := by rw [hN, hN, e3]
  have eh : hist σ' = hist σ := by
    rw [hist, hist, en, hF.2]
    apply List.map_congr_left
    intro i _
    exact (hh _).1
  obtain ⟨a1, a2, a3, a4, a5⟩ := x2
  refine ⟨by rw [xabs, (hh 0).1, eh], ⟨(hh 0).2 x0, (hh 1).2 x1, ⟨by rw [en]; exact a1, by rw [en, e3]; exact a2, by rw [hF.2]; exact a3, by rw [hF.2]; exact a4, fun i h => by rw [hF.2]; exact (hh _).2 (a5 i h)⟩, hP, (tabs_of (hF.1 (0, 5, 0) (by simp) (by simp)) (hF.1 (1, 5, 0) (by simp) (by simp))).2 x4, by rw [(hh 0).1]; exact x5, by rw [eh]; exact x6⟩, fun q hq => hF.1 q ?_ ?_⟩ <;> (intro z; rw [z] at hq; simp at hq)
theorem x_parts {σ σ' : Sg} {T : TV} (hX : XOK σ) (hT : TW 5 0 T σ σ') : XW (habs σ 0, (hist σ, pv σ)) σ σ' := by
  obtain ⟨x0, x1, x2, x3, x4, x5, x6⟩ := hX
  obtain ⟨t1, t2, t3, t4⟩ := id hT
  have n0 : ∀ j h, ((0, j, h) : Lo) ≠ (0, 5, 0) ∨ j = 5 := fun j h => by
    by_cases hj : j = 5
    · exact Or.inr hj
    · exact Or.inl (fun z => hj (congrArg (fun q : Lo => q.2.1) z))
  have hh : ∀ h, habs σ' h = habs σ h ∧ (HOK σ h → HOK σ' h) := fun h => by
    have e0 : ∀ j, j < 5 → σ'.1 (0, j, h) = σ.1 (0, j, h) := fun j hj => t3 _ (fun z => by have := congrArg (fun q : Lo => q.2.1) z; simp only at this; omega) (by simp)
    have e1 : ∀ j, j < 5 → σ'.1 (1, j, h) = σ.1 (1, j, h) := fun j hj => t3 _ (by simp) (fun z => by have := congrArg (fun q : Lo => q.2.1) z; simp only at this; omega)
    have e2 : σ'.1 (2, 0, h) = σ.1 (2, 0, h) := t3 _ (by simp) (by simp)
    refine ⟨Prod.ext ?_ ?_, fun hH => ⟨hH.1, fun j hj => (tabs_of (e0 j hj) (e1 j hj)).2 (hH.2 j hj)⟩⟩
    · funext j
      show (if j < 5 then tabs σ' j h else _) = if j < 5 then tabs σ j h else _
      by_cases hj : j < 5
      · rw [if_pos hj, if_pos hj, (tabs_of (e0 j hj) (e1 j hj)).1]
      · rw [if_neg hj, if_neg hj]
    · funext k
      show (if 5 ≤ k ∧ k ≤ 8 then σ'.1 (2, 0, h) k else 0) = if 5 ≤ k ∧ k ≤ 8 then σ.1 (2, 0, h) k else 0
      rw [e2]
  have e3 : σ'.1 (3, 0, 0) = σ.1 (3, 0, 0) := t3 _ (by simp) (by simp)
  have en : hN σ' = hN σ := by rw [hN, hN, e3]
  have eh : hist σ' = hist σ := by
    rw [hist, hist, en, t4]
    apply List.map_congr_left
    intro i _
    exact (hh _).1
  obtain ⟨a1, a2, a3, a4, a5⟩ := x2
  obtain ⟨p1, p2⟩ := tw_pad hT
  refine ⟨by rw [xabs, (hh 0).1, eh, p1], ⟨(hh 0).2 x0, (hh 1).2 x1, ⟨by rw [en]; exact a1, by rw [en, e3]; exact a2, by rw [t4]; exact a3, by rw [t4]; exact a4, fun i h => by rw [t4]; exact (hh _).2 (a5 i h)⟩, p2 x3, t2, by rw [(hh 0).1]; exact x5, by rw [eh]; exact x6⟩, fun q hq => t3 q ?_ ?_⟩ <;> (intro z; rw [z] at hq; simp at hq)
theorem x_trial {σ σ' : Sg} (hX : XOK σ) (h1 : HOK σ' 1) (hF : FrH 1 σ σ') : XW (habs σ 0, (hist σ, pv σ)) σ σ' := by
  obtain ⟨x0, x1, x2, x3, x4, x5, x6⟩ := hX
  obtain ⟨i1, i2⟩ := hi_FrH x2 hF (by decide)
  obtain ⟨q1, q2, q3, -⟩ := pad_FrH hF
  obtain ⟨o1, o2⟩ := hw_other (h2 := 0) (by decide) hF
  refine ⟨by rw [xabs, o1, i2, q2], ⟨o2 x0, h1, i1, q1 x3, q3 x4, by rw [o1]; exact x5, by rw [i2]; exact x6⟩, fun q hq => hF.1 q ?_ (fun j _ => ⟨?_, ?_⟩)⟩ <;> (intro z; rw [z] at hq; simp at hq)
theorem XW.tr {X1 X2 : XS} {σ σ1 σ2 : Sg} (a : XW X1 σ σ1) (b : XW X2 σ1 σ2) : XW X2 σ σ2 := ⟨b.1, b.2.1, fun q hq => (b.2.2 q hq).trans (a.2.2 q hq)⟩
theorem cnt_nI : ∀ (k : Nat) (x : Int64) (m : Nat), ∃ c, c ≤ m + k ∧ cntC k x (nI m) = nI c
  | 0, x, m => ⟨m, Nat.le_refl _, rfl⟩
  | k + 1, x, m => by
    rw [cntC]
    split
    · exact ⟨m, by omega, rfl⟩
    · split
      · obtain ⟨c, h1, h2⟩ := cnt_nI k (shr8 x) (m + 1)
        exact ⟨c, by omega, by rw [nI_1]; exact h2⟩
      · exact ⟨0, by omega, rfl⟩
theorem appF_1 (x : Int64) : ∀ (k : Nat) (P : PV), (appF x k P).1 = P.1 + k
  | 0, P => rfl
  | k + 1, P => by rw [appF, appF_1 x k]; show P.1 + 1 + k = P.1 + (k + 1); omega
def T0 : TV := (0, fun _ _ => 0)
def P0 : PV := (0, fun _ => 0)
def xput (S : HA) (Hs : List HA) (P : PV) (x : Int64) : Int32 × XS :=
  if ¬ cntC 8 x 0 = 0 then (if nI P.1 + cntC 8 x 0 ≤ 60 then (nI (P.1 + (cntC 8 x 0).toNatClampNeg), (S, (Hs, appF x (cntC 8 x 0).toNatClampNeg P))) else (-4, (S, (Hs, P)))) else (-2, (S, (Hs, P)))
def xwipe (S : HA) (Hs : List HA) (P : PV) : Int32 × XS := (nI P.1, (S, (Hs, P0)))
def xfault (P : PV) : Int32 := (rdF P 61 0 T0).1
def loadF (T : TV) : Nat → Nat → HA → HA
  | 0, _, S => S
  | k + 1, p, S => loadF T k (p + 1) (finFT S (T.2 p 0).toNatClampNeg (T.2 p 1))
def loadS2 (S : HA) (P : PV) : HA := loadF (rdF P 61 0 T0).2 (rdF P 61 0 T0).2.1 0 S
def xload (S : HA) (Hs : List HA) (P : PV) : Int32 × XS :=
  if (rdF P 61 0 T0).1 = -6 then ((loadS2 S P).2 7 - S.2 7, (loadS2 S P, (keepL Hs S, P0))) else (-3, (S, (Hs, P)))
def xundo (S : HA) (Hs : List HA) (P : PV) : Int32 × XS := if Hs.length = 0 then (-5, (S, (Hs, P))) else (nI (Hs.length - 1), (Hs.getD (Hs.length - 1) S, (Hs.dropLast, P)))
def fcF : Nat → HA → Int32 → HA × Int32
  | 0, S, d => (S, d)
  | k + 1, S, d =>
    if 999 ≤ S.2 5 then (S, d) else
    fcF k (endS (finFT (if ¬ S.2 6 = 0 then S else planS S) 0 (nI (sz (if ¬ S.2 6 = 0 then S else planS S) 2) - 1))) (d + cntDL (if ¬ S.2 6 = 0 then S else planS S) (sz (if ¬ S.2 6 = 0 then S else planS S) 2))
def fcA (S : HA) (q : HA × Int32) (w : Int32) : Int32 := sw 3 w (fun j => match j with
  | 0 => spreadS q.1 0 (-6) (-6) 0
  | 1 => q.1.2 7 - S.2 7
  | _ => q.2) (dirtL q.1 (sz q.1 1))
def xforecast (S : HA) (n w : Int32) : Int32 :=
  if isInS n 0 60 = 0 then -2 else if ¬ isInS w 0 3 = 0 then fcA S (fcF n.toNatClampNeg S 0) w else -2
abbrev P3 : Type := Int32 × (Int32 × Int32)
def frStep (S : HA) (a b : Nat) (p : P3) : P3 :=
  if p.2.2 ≤ (if canS S (nI a) (nI b) = 0 then p.2.2 else spreadIfS S (nI a) (nI b)) then p else (nI a, (nI b, if canS S (nI a) (nI b) = 0 then p.2.2 else spreadIfS S (nI a) (nI b)))
def frI (S : HA) (a : Nat) : Nat → Nat → P3 → P3
  | 0, _, p => p
  | k + 1, b, p => frI S a k (b + 1) (frStep S a b p)
def frO (S : HA) (n : Nat) : Nat → Nat → P3 → P3
  | 0, _, p => p
  | k + 1, a, p => frO S n k (a + 1) (frI S a (n - (a + 1)) (a + 1) p)
def frS (S : HA) : P3 := frO S (sz S 2) (sz S 2) 0 (-6, (-6, spreadS S 1 (-6) (-6) 0))
def xfairer (S : HA) (w : Int32) : Int32 :=
  if ¬ isInS w 0 2 = 0 then (if ¬ (frS S).1 = -6 then (if w = 0 then (frS S).1 else if w = 1 then (frS S).2.1 else (frS S).2.2) else -6) else -2
theorem isIn_ex {x : Int32} {n : Nat} (hn : n < 2 ^ 31) (h : ¬ isInS x 0 (nI n) = 0) : ∃ r, r ≤ n ∧ x = nI r := by
  unfold isInS at h
  split at h
  · exact absurd rfl h
  · rename_i h0
    split at h
    · exact absurd rfl h
    · rename_i h1
      obtain ⟨m, hm, rfl⟩ := nI_of h0
      rw [nI_ltI hn hm] at h1
      exact ⟨m, by omega, rfl⟩
-- numbers that are read
theorem dig_ex {c : Int32} (h : ¬ isInS c 48 57 = 0) : ∃ d, d ≤ 9 ∧ c = nI (48 + d) := by
  unfold isInS at h
  split at h
  · exact absurd rfl h
  · rename_i h0
    split at h
    · exact absurd rfl h
    · rename_i h1
      have h48 : ¬ c < 0 := fun z => h0 (Int32.lt_iff_toInt_lt.mpr (by have := Int32.lt_iff_toInt_lt.mp z; have e0 : (0 : Int32).toInt = 0 := rfl; have e8 : (48 : Int32).toInt = 48 := rfl; omega))
      obtain ⟨m, hm, rfl⟩ := nI_of h48
      rw [show (48 : Int32) = nI 48 from rfl, nI_ltI hm (by decide)] at h0
      rw [show (57 : Int32) = nI 57 from rfl, nI_ltI (by decide) hm] at h1
      exact ⟨m - 48, by omega, by rw [show 48 + (m - 48) = m from by omega]⟩
theorem dig_1 (d : Nat) : nI (48 + d) - 48 = nI d := by
  rw [show (48 : Int32) = nI 48 from rfl, pk_sub (by omega), Nat.add_sub_cancel_left]
theorem num_ok {P : PV} {s : Nat} (h : ¬ eonS P s = s) : ∃ t, t ≤ 99 ∧ numS P s (eonS P s) = nI t := by
  unfold eonS at h ⊢
  split
  · rename_i h1
    obtain ⟨d, hd, e⟩ := dig_ex h1
    have one : numS P s (s + 1) = nI d := by
      unfold numS
      rw [show s + 1 - s = 1 from by omega, numF, numF, e, show (10 : Int32) * 0 = 0 from rfl, Int32.zero_add, dig_1]
    split
    · exact ⟨d, by omega, one⟩
    · split
      · exact ⟨d, by omega, one⟩
      · rename_i h3
        obtain ⟨d2, hd2, e2⟩ := dig_ex h3
        refine ⟨10 * d + d2, by omega, ?_⟩
        unfold numS
        rw [show s + 2 - s = 2 from by omega, numF, numF, numF, e, e2, show (10 : Int32) * 0 = 0 from rfl, Int32.zero_add, dig_1, show (10 : Int32) = nI 10 from rfl, pk_mul, nI_add, show 10 * d + (48 + d2) = 48 + (10 * d + d2) from by omega, dig_1]
  · rename_i h1
    exact absurd (if_neg h1) h
def PartsOK (T : TV) : Prop := T.1 ≤ 30 → ∀ r, r < T.1 → ∃ t, t ≤ 99 ∧ T.2 r 0 = nI t
theorem addP_1 (T : TV) (f g : Int32) : (addP T f g).1 = T.1 + 1 := rfl
theorem addP_c {T : TV} {f g : Int32} (hn : T.1 < 2 ^ 30) (r c : Nat) : (addP T f g).2 r c = if r = T.1 ∧ c = 1 then g else if r = T.1 ∧ c = 0 then f else T.2 r c := by
  show (twr 2 (twr 2 (tapp T) (nI T.1) (nI 0) f) (nI T.1) (nI 1) g).2 r c = _
  rw [twr_nI (T := twr 2 (tapp T) (nI T.1) (nI 0) f) (r := T.1) (c := 1) (show T.1 < T.1 + 1 by omega) (by decide) (by omega) (by decide), twr_nI (T := tapp T) (r := T.1) (c := 0) (show T.1 < T.1 + 1 by omega) (by decide) (by omega) (by decide)]
  rfl
theorem addP_ok {T : TV} {f g : Int32} (h : PartsOK T) (hf : ∃ t, t ≤ 99 ∧ f = nI t) : PartsOK (addP T f g) := by
  intro h30 r hr
  have h30' : T.1 + 1 ≤ 30 := h30
  have hr' : r < T.1 + 1 := hr
  rw [addP_c (by omega), if_neg (by omega)]
  by_cases hrr : r = T.1
  · rw [if_pos ⟨hrr, rfl⟩]; exact hf
  · rw [if_neg (fun z => hrr z.1)]; exact h (by omega) r (by omega)
theorem rd_ok {P : PV} : ∀ (k s : Nat) (T : TV), PartsOK T → PartsOK (rdF P k s T).2
  | 0, _, _, h => h
  | k + 1, s, T, h => by
    rw [rdF]
    split
    · rename_i h1
      have hf := num_ok h1
      split
      · split
        · split
          · exact rd_ok k _ _ (addP_ok h hf)
          · exact addP_ok h hf
        · exact addP_ok h hf
      · split
        · exact h
        · split
          · split
            · split
              · exact rd_ok k _ _ (addP_ok h hf)
              · exact addP_ok h hf
            · exact addP_ok h hf
          · exact h
    · exact h
theorem x_undo {σ σ1 : Sg} {n : Nat} {S : HA} (hX : XOK σ) (y1 : HiOK σ1) (y2 : hist σ1 = (List.range n).map (fun i => habs σ (σ.2 i))) (y3 : HOK σ1 0) (y4 : habs σ1 0 = S) (y5 : ∀ q, q ≠ (3, 0, 0) → q ≠ (2, 0, 0) → (∀ j, j < 5 → q ≠ (0, j, 0) ∧ q ≠ (1, j, 0)) → σ1.1 q = σ.1 q) (hI : HInv S) (hall : ∀ S ∈ (List.range n).map (fun i => habs σ (σ.2 i)), HInv S) : XW (S, ((List.range n).map (fun i => habs σ (σ.2 i)), pv σ)) σ σ1 := by
  obtain ⟨x0, x1, x2, x3, x4, x5, x6⟩ := hX
  have e5 : σ1.1 (5, 0, 0) = σ.1 (5, 0, 0) := y5 _ (by simp) (by simp) (fun j _ => ⟨by simp, by simp⟩)
  have e6 : σ1.1 (6, 0, 0) = σ.1 (6, 0, 0) := y5 _ (by simp) (by simp) (fun j _ => ⟨by simp, by simp⟩)
  have t0 : σ1.1 (0, 5, 0) = σ.1 (0, 5, 0) := y5 _ (by simp) (by simp) (fun j hj => ⟨fun z => by have := congrArg (fun q : Lo => q.2.1) z; simp only at this; omega, by simp⟩)
  have t1 : σ1.1 (1, 5, 0) = σ.1 (1, 5, 0) := y5 _ (by simp) (by simp) (fun j hj => ⟨by simp, fun z => by have := congrArg (fun q : Lo => q.2.1) z; simp only at this; omega⟩)
  have en : pN σ1 = pN σ := by rw [pN, pN, e5]
  have h1 : habs σ1 1 = habs σ 1 ∧ (HOK σ 1 → HOK σ1 1) := habs_of (fun j => y5 _ (by simp) (by simp) (fun i _ => ⟨by simp, by simp⟩)) (fun j => y5 _ (by simp) (by simp) (fun i _ => ⟨by simp, by simp⟩)) (y5 _ (by simp) (by simp) (fun i _ => ⟨by simp, by simp⟩))
  refine ⟨by rw [xabs, y4, y2, pv, pv, en, e6], ⟨y3, h1.2 x1, y1, by rw [PadOK, en, e5]; exact x3, (tabs_of t0 t1).2 x4, by rw [y4]; exact hI, by rw [y2]; exact hall⟩, fun q hq => y5 q ?_ ?_ (fun j _ => ⟨?_, ?_⟩)⟩ <;> (intro z; rw [z] at hq; simp at hq)
theorem g_mono {l : Launch} {R : Room} {own : String} {cc : ByteArray} {nL : Nat} {ret : Option FieldType} {post post' : Option AV → Sg → Prop} {pc : Nat} {loc : List (Option AV)} {st : List AV} {σ : Sg} (h : G l R own cc nL ret post pc loc st σ) (hp : ∀ o σ', post o σ' → post' o σ') : G l R own cc nL ret post' pc loc st σ := by
  intro E p e s m args below meth c H locs ls C hσ hst hloc hlen hlv hP hS T hT X
  obtain ⟨t, g1, o, g2, g3, hQ, g4⟩ := h E p e s m args below meth c H locs ls C hσ hst hloc hlen hlv hP hS T hT X
  refine ⟨t, g1, o, g2, g3, ?_, g4⟩
  clear g1 g2 g3 g4 h
  revert hQ
  match ret with
  | none => exact fun ⟨⟨u, g1, g2, g3⟩, g4⟩ => ⟨⟨u, g1, hp _ _ g2, g3⟩, g4⟩
  | some (.object _) => exact fun ⟨⟨r, u, g1, ⟨oo, g5, g6, g2⟩, g3⟩, g4⟩ => ⟨⟨r, u, g1, ⟨oo, g5, g6, hp _ _ g2⟩, g3⟩, g4⟩
  | some .boolean => exact fun ⟨⟨r, u, g1, g2, g3⟩, g4⟩ => ⟨⟨r, u, g1, hp _ _ g2, g3⟩, g4⟩
  | some .int => exact fun ⟨⟨r, u, g1, g2, g3⟩, g4⟩ => ⟨⟨r, u, g1, hp _ _ g2, g3⟩, g4⟩
  | some .byte => exact fun ⟨⟨r, u, g1, g2, g3⟩, g4⟩ => ⟨⟨r, u, g1, hp _ _ g2, g3⟩, g4⟩
  | some .char => exact fun ⟨⟨r, u, g1, g2, g3⟩, g4⟩ => ⟨⟨r, u, g1, hp _ _ g2, g3⟩, g4⟩
  | some .short => exact fun ⟨⟨r, u, g1, g2, g3⟩, g4⟩ => ⟨⟨r, u, g1, hp _ _ g2, g3⟩, g4⟩
  | some .long => exact fun ⟨⟨r, u, g1, g2, g3⟩, g4⟩ => ⟨⟨r, u, g1, hp _ _ g2, g3⟩, g4⟩
  | some .float => exact fun ⟨⟨r, u, g1, g2, g3⟩, g4⟩ => ⟨⟨r, u, g1, hp _ _ g2, g3⟩, g4⟩
  | some .double => exact fun ⟨⟨r, u, g1, g2, g3⟩, g4⟩ => ⟨⟨r, u, g1, hp _ _ g2, g3⟩, g4⟩
  | some (.array _) => exact fun ⟨⟨r, u, g1, g2, g3⟩, g4⟩ => ⟨⟨r, u, g1, hp _ _ g2, g3⟩, g4⟩
theorem inv_finG {last : Int32} : ∀ (k t : Nat) (S : HA), HInv S → HInv (finG last k t S)
  | 0, _, _, h => h
  | k + 1, t, S, h => by
    rw [finG]
    split
    · exact h
    · split
      · exact h
      · split
        · exact inv_finG k _ S h
        · exact inv_finG k _ _ (inv_fin h _)
theorem inv_finFT {S : HA} (h : HInv S) (f : Nat) (last : Int32) : HInv (finFT S f last) := inv_finG _ _ S h
theorem inv_loadF {T : TV} : ∀ (k p : Nat) (S : HA), HInv S → HInv (loadF T k p S)
  | 0, _, _, h => h
  | k + 1, p, S, h => by rw [loadF]; exact inv_loadF k _ _ (inv_finFT h _ _)
theorem inv_load {S : HA} (h : HInv S) (P : PV) : HInv (loadS2 S P) := inv_loadF _ _ S h
set_option maxHeartbeats 2000000 in
theorem c_X4_put (l : Launch) {σ : Sg} {x : Int64} (hX : XOK σ)  : Con l 2 yX4_put cX4_put 4 (some .int) [vR (7, 0, 0), vL x] σ (fun o σ' => o = some (vI (xput (habs σ 0) (hist σ) (pv σ) x).1) ∧ XW (xput (habs σ 0) (hist σ) (pv σ) x).2 σ σ') := by
  refine con_of pn_X4_put (Nat.le_of_ble_eq_true rfl) (fun hPK hok => ?_)
  show G l (Rm 2) RX4 cX4_put 4 (some .int) _ 0 [some (vR (7, 0, 0)), some (vL x), none, none] [] σ
  obtain ⟨x0, x1, x2, x3, x4, x5, x6⟩ := id hX
  refine g_blk (pc' := 1) (loc' := [some (vR (7, 0, 0)), some (vL x), none, none]) (st' := [vL x]) (σ' := σ) fl4_ok [(0, .lload_n 1)] (by decide +kernel) rfl rfl ?_
  refine g_callSp [vL x] [] sl_RX4_196 mi_X2_countCharacters (c_X2_countCharacters l) rfl ⟨Nat.le_of_ble_eq_true rfl, Nat.le_of_ble_eq_true rfl⟩ rfl (Nat.le_of_ble_eq_true rfl) (by decide +kernel) ?_
  obtain ⟨c, hc8, hce⟩ := cnt_nI 8 x 0
  have hce : cntC 8 x 0 = nI c := hce
  rw [hce]
  refine g_blk (pc' := 6) (loc' := [some (vR (7, 0, 0)), some (vL x), none, some (vI (nI c))]) (st' := [vI (nI c)]) (σ' := σ) fl4_ok [(4, .istore_n 3), (5, .iload_n 3)] (by decide +kernel) rfl rfl ?_
  refine g_if_ne (off := 6) (tgt := 12) (by decide +kernel) (by decide) (fun zc6 => ?_) (fun zc6 => ?_)
  · refine g_blk (pc' := 23) (loc' := [some (vR (7, 0, 0)), some (vL x), none, some (vI (nI c))]) (st' := [vI (60 : Int32), vI ((σ.1 (5, 0, 0) 1) + (nI c))]) (σ' := σ) fl4_ok [(12, .aload_n 0), (13, .getfield 29), (16, .getfield 175), (19, .iload_n 3), (20, .iadd), (21, .bipush 60)] (by decide +kernel) rfl rfl ?_
    refine g_icmp_le (off := 6) (tgt := 29) (by decide +kernel) (by decide) (fun zc23 => ?_) (fun zc23 => ?_)
    · refine g_blk (pc' := 35) (loc' := [some (vR (7, 0, 0)), some (vL x), none, some (vI (nI c))]) (st' := [vI (nI c), vL x, vR (5, 0, 0)]) (σ' := σ) fl4_ok [(29, .aload_n 0), (30, .getfield 29), (33, .lload_n 1), (34, .iload_n 3)] (by decide +kernel) rfl rfl ?_
      rw [x3.2, nI_add, show (60 : Int32) = nI 60 from rfl, nI_leI (by have := x3.1; omega) (by decide)] at zc23
      refine g_callV (5, 0, 0) [vL x, vI (nI c)] [] vl_RX4_200 mi_X2_append (c_X2_append l (x := x) (c := c) x3 zc23) rfl rfl rfl rfl ⟨Nat.le_of_ble_eq_true rfl, Nat.le_of_ble_eq_true rfl⟩ rfl (Nat.le_of_ble_eq_true rfl) (by decide +kernel) (fun o σ1 hP1 => ?_)
      obtain ⟨rfl, y1, y2, y3⟩ := hP1
      refine g_blk (pc' := 45) (loc' := [some (vR (7, 0, 0)), some (vL x), none, some (vI (nI c))]) (st' := [vI (σ1.1 (5, 0, 0) 1)]) (σ' := σ1) fl4_ok [(38, .aload_n 0), (39, .getfield 29), (42, .getfield 175)] (by decide +kernel) rfl rfl ?_
      have hle : nI (pv σ).1 + nI c ≤ 60 := by rw [show (pv σ).1 = pN σ from rfl, nI_add, show (60 : Int32) = nI 60 from rfl, nI_leI (by have := x3.1; omega) (by decide)]; exact zc23
      have hlen : pN σ1 = pN σ + c := (congrArg Prod.fst y2).trans (appF_1 x c (pv σ))
      have hXW := x_pad hX y1 y3
      rw [y2] at hXW
      refine g_iret (by decide +kernel) ⟨?_, ?_⟩
      · rw [xput, hce, if_pos zc6, if_pos hle, nI_clamp (by omega), y1.2, hlen]
        rfl
      · rw [xput, hce, if_pos zc6, if_pos hle, nI_clamp (by omega)]
        exact hXW
    · refine g_blk (pc' := 28) (loc' := [some (vR (7, 0, 0)), some (vL x), none, some (vI (nI c))]) (st' := [vI (-4 : Int32)]) (σ' := σ) fl4_ok [(26, .bipush (-4))] (by decide +kernel) rfl rfl ?_
      have hle : ¬ nI (pv σ).1 + nI c ≤ 60 := by rw [show nI (pv σ).1 = σ.1 (5, 0, 0) 1 from x3.2.symm]; exact zc23
      exact g_iret (by decide +kernel) ⟨by rw [xput, hce, if_pos zc6, if_neg hle], by rw [xput, hce, if_pos zc6, if_neg hle]; exact XW.rf hX⟩
  · refine g_blk (pc' := 11) (loc' := [some (vR (7, 0, 0)), some (vL x), none, some (vI (nI c))]) (st' := [vI (-2 : Int32)]) (σ' := σ) fl4_ok [(9, .bipush (-2))] (by decide +kernel) rfl rfl ?_
    exact g_iret (by decide +kernel) ⟨by rw [xput, hce, if_neg (not_not_intro zc6)], by rw [xput, hce, if_neg (not_not_intro zc6)]; exact XW.rf hX⟩
set_option maxHeartbeats 2000000 in
theorem c_X4_wipe (l : Launch) {σ : Sg}  (hX : XOK σ)  : Con l 0 yX4_wipe cX4_wipe 2 (some .int) [vR (7, 0, 0)] σ (fun o σ' => o = some (vI (xwipe (habs σ 0) (hist σ) (pv σ)).1) ∧ XW (xwipe (habs σ 0) (hist σ) (pv σ)).2 σ σ') := by
  refine con_of pn_X4_wipe (Nat.le_of_ble_eq_true rfl) (fun hPK hok => ?_)
  show G l (Rm 0) RX4 cX4_wipe 2 (some .int) _ 0 [some (vR (7, 0, 0)), none] [] σ
  obtain ⟨x0, x1, x2, x3, x4, x5, x6⟩ := id hX
  refine g_blk (pc' := 16) (loc' := [some (vR (7, 0, 0)), some (vI (σ.1 (5, 0, 0) 1))]) (st' := []) (σ' := (upd2 σ.1 (5, 0, 0) 1 (0 : Int32), σ.2)) fl4_ok [(0, .aload_n 0), (1, .getfield 29), (4, .getfield 175), (7, .istore_n 1), (8, .aload_n 0), (9, .getfield 29), (12, .iconst 0), (13, .putfield 175)] (by decide +kernel) rfl rfl ?_
  generalize hσ1 : ((upd2 σ.1 (5, 0, 0) 1 (0 : Int32), σ.2) : Sg) = σ1
  obtain ⟨y1, y2, y3, y4⟩ := pad_N (n := 0) (Nat.zero_le _) hσ1
  refine g_blk (pc' := 17) (loc' := [some (vR (7, 0, 0)), some (vI (σ.1 (5, 0, 0) 1))]) (st' := [vI (σ.1 (5, 0, 0) 1)]) (σ' := σ1) fl4_ok [(16, .iload_n 1)] (by decide +kernel) rfl rfl ?_
  have hXW := x_pad hX y1 y4
  have hpv : pv σ1 = P0 := Prod.ext y2 (by rw [y3]; funext i; exact if_neg (Nat.not_lt_zero i))
  rw [hpv] at hXW
  exact g_iret (by decide +kernel) ⟨by rw [x3.2]; rfl, hXW⟩
set_option maxHeartbeats 2000000 in
theorem c_X4_fault (l : Launch) {σ : Sg}  (hX : XOK σ)  : Con l 4 yX4_fault cX4_fault 1 (some .int) [vR (7, 0, 0)] σ (fun o σ' => o = some (vI ((xfault (pv σ), ((habs σ 0, (hist σ, pv σ)) : XS))).1) ∧ XW ((xfault (pv σ), ((habs σ 0, (hist σ, pv σ)) : XS))).2 σ σ') := by
  refine con_of pn_X4_fault (Nat.le_of_ble_eq_true rfl) (fun hPK hok => ?_)
  show G l (Rm 4) RX4 cX4_fault 1 (some .int) _ 0 [some (vR (7, 0, 0))] [] σ
  obtain ⟨x0, x1, x2, x3, x4, x5, x6⟩ := id hX
  refine g_blk (pc' := 4) (loc' := [some (vR (7, 0, 0))]) (st' := [vR (5, 0, 0)]) (σ' := σ) fl4_ok [(0, .aload_n 0), (1, .getfield 29)] (by decide +kernel) rfl rfl ?_
  refine g_callV (5, 0, 0) [] [] vl_RX4_204 mi_X2_read (c_X2_read l x3 x4) rfl rfl rfl rfl ⟨Nat.le_of_ble_eq_true rfl, Nat.le_of_ble_eq_true rfl⟩ rfl (Nat.le_of_ble_eq_true rfl) (by decide +kernel) (fun o σ1 hP1 => ?_)
  obtain ⟨rfl, hTW⟩ := hP1
  exact g_iret (by decide +kernel) ⟨rfl, x_parts hX hTW⟩
set_option maxHeartbeats 2000000 in
theorem c_X4_undo (l : Launch) {σ : Sg}  (hX : XOK σ)  : Con l 4 yX4_undo cX4_undo 1 (some .int) [vR (7, 0, 0)] σ (fun o σ' => o = some (vI (xundo (habs σ 0) (hist σ) (pv σ)).1) ∧ XW (xundo (habs σ 0) (hist σ) (pv σ)).2 σ σ') := by
  refine con_of pn_X4_undo (Nat.le_of_ble_eq_true rfl) (fun hPK hok => ?_)
  show G l (Rm 4) RX4 cX4_undo 1 (some .int) _ 0 [some (vR (7, 0, 0))] [] σ
  obtain ⟨x0, x1, x2, x3, x4, x5, x6⟩ := id hX
  refine g_blk (pc' := 7) (loc' := [some (vR (7, 0, 0))]) (st' := [vI (σ.1 (3, 0, 0) 1)]) (σ' := σ) fl4_ok [(0, .aload_n 0), (1, .getfield 22), (4, .getfield 178)] (by decide +kernel) rfl rfl ?_
  refine g_if_ne (off := 6) (tgt := 13) (by decide +kernel) (by decide) (fun zc7 => ?_) (fun zc7 => ?_)
  · refine g_blk (pc' := 21) (loc' := [some (vR (7, 0, 0))]) (st' := [vR (2, 0, 0), vR (3, 0, 0)]) (σ' := σ) fl4_ok [(13, .aload_n 0), (14, .getfield 22), (17, .aload_n 0), (18, .getfield 10)] (by decide +kernel) rfl rfl ?_
    have h0n : ¬ hN σ = 0 := fun z => zc7 (by rw [x2.2.1, z]; rfl)
    obtain ⟨n, hn⟩ : ∃ n, hN σ = n + 1 := ⟨hN σ - 1, by omega⟩
    have hn6 : n < 6 := by have := x2.1; omega
    have hmem : habs σ (σ.2 n) ∈ hist σ := by rw [hist_eq hn]; exact List.mem_map.mpr ⟨n, List.mem_range.mpr (by omega), rfl⟩
    refine g_callV (3, 0, 0) [vR (2, 0, 0)] [] vl_RX4_214 mi_X0_restore (c_X0_restore l x2 hn x0 (x6 _ hmem).1) rfl rfl rfl rfl ⟨Nat.le_of_ble_eq_true rfl, Nat.le_of_ble_eq_true rfl⟩ rfl (Nat.le_of_ble_eq_true rfl) (by decide +kernel) (fun o σ1 hP1 => ?_)
    obtain ⟨rfl, y1, y2, y3, y4, y5⟩ := hP1
    refine g_blk (pc' := 31) (loc' := [some (vR (7, 0, 0))]) (st' := [vI (σ1.1 (3, 0, 0) 1)]) (σ' := σ1) fl4_ok [(24, .aload_n 0), (25, .getfield 22), (28, .getfield 178)] (by decide +kernel) rfl rfl ?_
    have hl : (hist σ).length = n + 1 := by rw [hist, List.length_map, List.length_range, hn]
    have hln : ¬ (hist σ).length = 0 := by omega
    have e1 : (hist σ).getD ((hist σ).length - 1) (habs σ 0) = habs σ (σ.2 n) := by
      rw [hl, Nat.add_sub_cancel, hist_eq hn, List.getD_eq_getElem?_getD, List.getElem?_map, List.getElem?_range (by omega)]
      rfl
    have e2 : (hist σ).dropLast = (List.range n).map (fun i => habs σ (σ.2 i)) := by
      rw [hist_eq hn, List.range_succ, List.map_append, List.map_cons, List.map_nil, List.dropLast_concat]
    have hnN : hN σ1 = n := by
      have e : (hist σ1).length = n := by rw [y2, List.length_map, List.length_range]
      rw [hist, List.length_map, List.length_range] at e
      exact e
    refine g_iret (by decide +kernel) ⟨?_, ?_⟩
    · rw [xundo, if_neg hln, hl, y1.2.1, hnN]
      rfl
    · rw [xundo, if_neg hln, e1, e2]
      exact x_undo hX y1 y2 y3 y4 y5 (x6 _ hmem) (fun S hS => x6 S (by rw [hist_eq hn, List.range_succ, List.map_append]; exact List.mem_append_left _ hS))
  · refine g_blk (pc' := 12) (loc' := [some (vR (7, 0, 0))]) (st' := [vI (-5 : Int32)]) (σ' := σ) fl4_ok [(10, .bipush (-5))] (by decide +kernel) rfl rfl ?_
    have hl0 : (hist σ).length = 0 := by
      rw [hist, List.length_map, List.length_range]
      rw [x2.2.1] at zc7
      exact (nI_eq (b := 0) (by have := x2.1; omega) (by decide)).mp zc7
    exact g_iret (by decide +kernel) ⟨by rw [xundo, if_pos hl0], by rw [xundo, if_pos hl0]; exact XW.rf hX⟩
set_option maxHeartbeats 2000000 in
theorem lp_X4_load (l : Launch) {σ0 : Sg} {T : TV} {b : Int32} {Sf : HA} (h30 : T.1 ≤ 30) (hok : ∀ r, r < T.1 → ∃ t, t ≤ 99 ∧ T.2 r 0 = nI t) : ∀ (k p : Nat) (σ : Sg), HOK σ 0 → TOK σ 5 0 → tabs σ 5 0 = T → p + k = T.1 → loadF T k p (habs σ 0) = Sf → FrH 0 σ0 σ → G l (Rm 5) RX4 cX4_load 3 (some .int) (fun o σ' => o = some (vI (Sf.2 7 - b)) ∧ habs σ' 0 = Sf ∧ HOK σ' 0 ∧ ∃ σ1, FrH 0 σ0 σ1 ∧ (upd2 σ1.1 (5, 0, 0) 1 (nI 0), σ1.2) = σ') 36 [some (vR (7, 0, 0)), some (vI b), some (vI (nI p))] [] σ := by
  intro k
  induction k with
  | zero =>
    intro p σ hH hT hTe hk hd hF
    refine g_blk (pc' := 44) (loc' := [some (vR (7, 0, 0)), some (vI b), some (vI (nI p))]) (st' := [vR (0, 5, 0), vI (nI p)]) (σ' := σ) fl4_ok [(36, .iload_n 2), (37, .aload_n 0), (38, .getfield 29), (41, .getfield 207)] (by decide +kernel) rfl rfl ?_
    refine g_callVp (0, 5, 0) [] [vI (nI p)] vl_RX4_157 mi_X3_size (c_X3_size l hT) rfl rfl rfl rfl ⟨Nat.le_of_ble_eq_true rfl, Nat.le_of_ble_eq_true rfl⟩ rfl (Nat.le_of_ble_eq_true rfl) (by decide +kernel) ?_
    refine g_icmp_ge (off := 40) (tgt := 87) (by decide +kernel) (by decide) (fun zc47 => ?_) (fun zc47 => ?_)
    · rw [show tN σ 5 0 = T.1 from congrArg Prod.fst hTe, nI_leI (by omega) (by omega)] at zc47
      refine g_blk (pc' := 95) (loc' := [some (vR (7, 0, 0)), some (vI b), some (vI (nI p))]) (st' := []) (σ' := (upd2 σ.1 (5, 0, 0) 1 (0 : Int32), σ.2)) fl4_ok [(87, .aload_n 0), (88, .getfield 29), (91, .iconst 0), (92, .putfield 175)] (by decide +kernel) rfl rfl ?_
      generalize hσ1 : ((upd2 σ.1 (5, 0, 0) 1 (0 : Int32), σ.2) : Sg) = σ1
      have hh := habs_of (σ := σ) (σ' := σ1) (h := 0) (fun j => by rw [← hσ1]; exact upd2_ne σ.1 (q := (5, 0, 0)) (p := (0, j, 0)) 1 0 (by simp)) (fun j => by rw [← hσ1]; exact upd2_ne σ.1 (q := (5, 0, 0)) (p := (1, j, 0)) 1 0 (by simp)) (by rw [← hσ1]; exact upd2_ne σ.1 (q := (5, 0, 0)) (p := (2, 0, 0)) 1 0 (by simp))
      refine g_blk (pc' := 104) (loc' := [some (vR (7, 0, 0)), some (vI b), some (vI (nI p))]) (st' := [vI (((habs σ1 0).2 7) - b)]) (σ' := σ1) fl4_ok [(95, .aload_n 0), (96, .getfield 10), (99, .getfield 163), (102, .iload_n 1), (103, .isub)] (by decide +kernel) rfl rfl ?_
      have hd1 : habs σ 0 = Sf := hd
      exact g_iret (by decide +kernel) ⟨by rw [hh.1, hd1], by rw [hh.1, hd1], hh.2 hH, σ, hF, hσ1⟩
    · rw [show tN σ 5 0 = T.1 from congrArg Prod.fst hTe, nI_leI (by omega) (by omega)] at zc47
      exact absurd (by omega) zc47
  | succ k ih =>
    intro p σ hH hT hTe hk hd hF
    refine g_blk (pc' := 44) (loc' := [some (vR (7, 0, 0)), some (vI b), some (vI (nI p))]) (st' := [vR (0, 5, 0), vI (nI p)]) (σ' := σ) fl4_ok [(36, .iload_n 2), (37, .aload_n 0), (38, .getfield 29), (41, .getfield 207)] (by decide +kernel) rfl rfl ?_
    refine g_callVp (0, 5, 0) [] [vI (nI p)] vl_RX4_157 mi_X3_size (c_X3_size l hT) rfl rfl rfl rfl ⟨Nat.le_of_ble_eq_true rfl, Nat.le_of_ble_eq_true rfl⟩ rfl (Nat.le_of_ble_eq_true rfl) (by decide +kernel) ?_
    refine g_icmp_ge (off := 40) (tgt := 87) (by decide +kernel) (by decide) (fun zc47 => ?_) (fun zc47 => ?_)
    · rw [show tN σ 5 0 = T.1 from congrArg Prod.fst hTe, nI_leI (by omega) (by omega)] at zc47
      exact absurd zc47 (by omega)
    · rw [show tN σ 5 0 = T.1 from congrArg Prod.fst hTe, nI_leI (by omega) (by omega)] at zc47
      refine g_blk (pc' := 63) (loc' := [some (vR (7, 0, 0)), some (vI b), some (vI (nI p))]) (st' := [vI (0 : Int32), vI (nI p), vR (0, 5, 0), vR (2, 0, 0)]) (σ' := σ) fl4_ok [(50, .aload_n 0), (51, .getfield 10), (54, .aload_n 0), (55, .getfield 29), (58, .getfield 207), (61, .iload_n 2), (62, .iconst 0)] (by decide +kernel) rfl rfl ?_
      refine g_callVp (0, 5, 0) [vI (nI p), vI (0 : Int32)] [vR (2, 0, 0)] vl_RX4_107 mi_X3_cell (c_X3_cell l (nI p) (0 : Int32) hT) rfl rfl rfl rfl ⟨Nat.le_of_ble_eq_true rfl, Nat.le_of_ble_eq_true rfl⟩ rfl (Nat.le_of_ble_eq_true rfl) (by decide +kernel) ?_
      refine g_blk (pc' := 75) (loc' := [some (vR (7, 0, 0)), some (vI b), some (vI (nI p))]) (st' := [vI (1 : Int32), vI (nI p), vR (0, 5, 0), vI (tcell (tabs σ 5 0) (nI p) (0 : Int32)), vR (2, 0, 0)]) (σ' := σ) fl4_ok [(66, .aload_n 0), (67, .getfield 29), (70, .getfield 207), (73, .iload_n 2), (74, .iconst 1)] (by decide +kernel) rfl rfl ?_
      refine g_callVp (0, 5, 0) [vI (nI p), vI (1 : Int32)] [vI (tcell (tabs σ 5 0) (nI p) (0 : Int32)), vR (2, 0, 0)] vl_RX4_107 mi_X3_cell (c_X3_cell l (nI p) (1 : Int32) hT) rfl rfl rfl rfl ⟨Nat.le_of_ble_eq_true rfl, Nat.le_of_ble_eq_true rfl⟩ rfl (Nat.le_of_ble_eq_true rfl) (by decide +kernel) ?_
      rw [hTe, show (0 : Int32) = nI 0 from rfl, show (1 : Int32) = nI 1 from rfl, tcell_nI (by omega) (by decide), tcell_nI (by omega) (by decide)]
      obtain ⟨t, ht, hte⟩ := hok p (by omega)
      rw [hte]
      refine g_callV (2, 0, 0) [vI (nI t), vI (T.2 p 1)] [] vl_RX4_210 mi_X1_finishFromTo (c_X1_finishFromTo l (t := t) (T.2 p 1) hH (by omega)) rfl rfl rfl rfl ⟨Nat.le_of_ble_eq_true rfl, Nat.le_of_ble_eq_true rfl⟩ rfl (Nat.le_of_ble_eq_true rfl) (by decide +kernel) (fun o σ1 hPσ1 => ?_)
      obtain ⟨rfl, hWσ1⟩ := hPσ1
      refine g_blk (pc' := 36) (loc' := [some (vR (7, 0, 0)), some (vI b), some (vI ((nI p) + (1 : Int32)))]) (st' := []) (σ' := σ1) fl4_ok [(81, .iinc 2 1), (84, .goto (-48))] (by decide +kernel) rfl rfl ?_
      have hpf := pad_FrH (hWσ1.2.2)
      rw [nI_1]
      exact ih (p + 1) σ1 hWσ1.2.1 (hpf.2.2.1 hT) (by rw [hpf.2.2.2]; exact hTe) (by omega) (by rw [hWσ1.1]; rw [loadF, hte, nI_clamp (by omega)] at hd; exact hd) (hF.tr (hWσ1.2.2))
theorem lp_X4_load' (l : Launch) {σ : Sg} {T : TV} {b : Int32} {Sf : HA} {post : Option AV → Sg → Prop} (h30 : T.1 ≤ 30) (hok : ∀ r, r < T.1 → ∃ t, t ≤ 99 ∧ T.2 r 0 = nI t) (hH : HOK σ 0) (hT : TOK σ 5 0) (hTe : tabs σ 5 0 = T) (hd : loadF T T.1 0 (habs σ 0) = Sf)
    (kk : ∀ σ', habs σ' 0 = Sf → HOK σ' 0 → (∃ σ1, FrH 0 σ σ1 ∧ (upd2 σ1.1 (5, 0, 0) 1 (nI 0), σ1.2) = σ') → post (some (vI (Sf.2 7 - b))) σ') : G l (Rm 5) RX4 cX4_load 3 (some .int) post 36 [some (vR (7, 0, 0)), some (vI b), some (vI (0 : Int32))] [] σ :=
  g_mono (lp_X4_load l h30 hok T.1 0 σ hH hT hTe (by omega) hd FrH.rf) (fun o σ' hp => by obtain ⟨rfl, h1, h2, h3⟩ := hp; exact kk σ' h1 h2 h3)
set_option maxHeartbeats 2000000 in
theorem c_X4_load (l : Launch) {σ : Sg}  (hX : XOK σ)  : Con l 5 yX4_load cX4_load 3 (some .int) [vR (7, 0, 0)] σ (fun o σ' => o = some (vI (xload (habs σ 0) (hist σ) (pv σ)).1) ∧ XW (xload (habs σ 0) (hist σ) (pv σ)).2 σ σ') := by
  refine con_of pn_X4_load (Nat.le_of_ble_eq_true rfl) (fun hPK hok => ?_)
  show G l (Rm 5) RX4 cX4_load 3 (some .int) _ 0 [some (vR (7, 0, 0)), none, none] [] σ
  obtain ⟨x0, x1, x2, x3, x4, x5, x6⟩ := id hX
  refine g_blk (pc' := 4) (loc' := [some (vR (7, 0, 0)), none, none]) (st' := [vR (5, 0, 0)]) (σ' := σ) fl4_ok [(0, .aload_n 0), (1, .getfield 29)] (by decide +kernel) rfl rfl ?_
  refine g_callV (5, 0, 0) [] [] vl_RX4_204 mi_X2_read (c_X2_read l x3 x4) rfl rfl rfl rfl ⟨Nat.le_of_ble_eq_true rfl, Nat.le_of_ble_eq_true rfl⟩ rfl (Nat.le_of_ble_eq_true rfl) (by decide +kernel) (fun o σ1 hP1 => ?_)
  obtain ⟨rfl, hTW⟩ := hP1
  refine g_blk (pc' := 9) (loc' := [some (vR (7, 0, 0)), none, none]) (st' := [vI (-6 : Int32), vI ((rdF (pv σ) 61 0 T0).1)]) (σ' := σ1) fl4_ok [(7, .bipush (-6))] (by decide +kernel) rfl rfl ?_
  refine g_icmp_eq (off := 6) (tgt := 15) (by decide +kernel) (by decide) (fun zc9 => ?_) (fun zc9 => ?_)
  · refine g_blk (pc' := 23) (loc' := [some (vR (7, 0, 0)), none, none]) (st' := [vR (2, 0, 0), vR (3, 0, 0)]) (σ' := σ1) fl4_ok [(15, .aload_n 0), (16, .getfield 22), (19, .aload_n 0), (20, .getfield 10)] (by decide +kernel) rfl rfl ?_
    have hX1 := x_parts hX hTW
    have hXok := hX1.2.1
    have e0 : habs σ1 0 = habs σ 0 := congrArg Prod.fst hX1.1
    have eh : hist σ1 = hist σ := congrArg (fun X : XS => X.2.1) hX1.1
    obtain ⟨w0, w1, w2, w3, w4, w5, w6⟩ := id hXok
    refine g_callV (3, 0, 0) [vR (2, 0, 0)] [] vl_RX4_47 mi_X0_keep (c_X0_keep l w2 w0 w5.1) rfl rfl rfl rfl ⟨Nat.le_of_ble_eq_true rfl, Nat.le_of_ble_eq_true rfl⟩ rfl (Nat.le_of_ble_eq_true rfl) (by decide +kernel) (fun o σk hPk => ?_)
    obtain ⟨rfl, k1, k2, k3⟩ := hPk
    obtain ⟨hS0, hH0⟩ := k3.house (h := 0) (by decide)
    refine g_blk (pc' := 36) (loc' := [some (vR (7, 0, 0)), some (vI ((habs σk 0).2 7)), some (vI (0 : Int32))]) (st' := []) (σ' := σk) fl4_ok [(26, .aload_n 0), (27, .getfield 10), (30, .getfield 163), (33, .istore_n 1), (34, .iconst 0), (35, .istore_n 2)] (by decide +kernel) rfl rfl ?_
    have hT2 : tabs σ1 5 0 = (rdF (pv σ) 61 0 T0).2 := hTW.1
    have h30 : (rdF (pv σ) 61 0 T0).2.1 ≤ 30 := by rw [← hT2]; exact w4.1
    obtain ⟨-, -, g3, g4⟩ := pad_FrHi k3
    have hb : (habs σk 0).2 7 = (habs σ 0).2 7 := by rw [hS0, e0]
    rw [hb]
    refine lp_X4_load' l h30 (rd_ok 61 0 T0 (fun _ r hr => absurd hr (Nat.not_lt_zero r)) h30) (hH0 w0) (g3 w4) (g4.trans hT2) (Sf := loadS2 (habs σ 0) (pv σ)) (by rw [hS0, e0]; rfl) (fun σ2 m1 m2 m3 => ?_)
    obtain ⟨σ3, m4, m5⟩ := m3
    rw [xload, if_pos zc9]
    refine ⟨rfl, ?_⟩
    have hxm := x_mut hXok k1 k2 k3 (σ2 := σ3) (S' := loadS2 (habs σ 0) (pv σ)) (by rw [← m1, ← m5]; exact (habs_of (fun j => (upd2_ne σ3.1 (q := (5, 0, 0)) (p := (0, j, 0)) 1 (nI 0) (by simp)).symm) (fun j => (upd2_ne σ3.1 (q := (5, 0, 0)) (p := (1, j, 0)) 1 (nI 0) (by simp)).symm) (upd2_ne σ3.1 (q := (5, 0, 0)) (p := (2, 0, 0)) 1 (nI 0) (by simp)).symm).1) ((habs_of (fun j => by rw [← m5]; exact (upd2_ne σ3.1 (q := (5, 0, 0)) (p := (0, j, 0)) 1 (nI 0) (by simp)).symm) (fun j => by rw [← m5]; exact (upd2_ne σ3.1 (q := (5, 0, 0)) (p := (1, j, 0)) 1 (nI 0) (by simp)).symm) (by rw [← m5]; exact (upd2_ne σ3.1 (q := (5, 0, 0)) (p := (2, 0, 0)) 1 (nI 0) (by simp)).symm)).2 m2) m4 (inv_load x5 (pv σ))
    obtain ⟨y1, y2, y3, y4⟩ := pad_N (n := 0) (Nat.zero_le _) m5
    have hpv : pv σ2 = P0 := Prod.ext y2 (by rw [y3]; funext i; exact if_neg (Nat.not_lt_zero i))
    have hxp := x_pad hxm.2.1 y1 y4
    have e3h : habs σ3 0 = loadS2 (habs σ 0) (pv σ) := congrArg Prod.fst hxm.1
    have e3l : hist σ3 = keepL (hist σ) (habs σ 0) := by rw [← eh, ← e0]; exact congrArg (fun X : XS => X.2.1) hxm.1
    rw [hpv, e3h, e3l] at hxp
    exact (hX1.tr hxm).tr hxp
  · refine g_blk (pc' := 14) (loc' := [some (vR (7, 0, 0)), none, none]) (st' := [vI (-3 : Int32)]) (σ' := σ1) fl4_ok [(12, .bipush (-3))] (by decide +kernel) rfl rfl ?_
    exact g_iret (by decide +kernel) ⟨by rw [xload, if_neg zc9], by rw [xload, if_neg zc9]; exact x_parts hX hTW⟩
set_option maxHeartbeats 2000000 in
theorem lp_X4_fairerI (l : Launch) {σ : Sg} {w : Int32} {a : Nat} {pf : P3} (x0 : HOK σ 0) (ha : a < (sz (habs σ 0) 2)) (kk : G l (Rm 4) RX4 cX4_fairer 8 (some .int) (pureP (xfairer (habs σ 0) w) σ) 30 [some (vR (7, 0, 0)), some (vI w), some (vI pf.1), some (vI pf.2.1), some (vI pf.2.2), some (vI (nI (a + 1))), none, none] [] σ) : ∀ (k b : Nat) (p : P3), b + k = (sz (habs σ 0) 2) → frI (habs σ 0) a k b p = pf → G l (Rm 4) RX4 cX4_fairer 8 (some .int) (pureP (xfairer (habs σ 0) w) σ) 51 [some (vR (7, 0, 0)), some (vI w), some (vI ((p).1)), some (vI ((p).2.1)), some (vI ((p).2.2)), some (vI (nI a)), some (vI (nI b)), none] [] σ := by
  intro k
  induction k with
  | zero =>
    intro b p hk hd
    have hd : p = pf := hd
    refine g_blk (pc' := 60) (loc' := [some (vR (7, 0, 0)), some (vI w), some (vI ((p).1)), some (vI ((p).2.1)), some (vI ((p).2.2)), some (vI (nI a)), some (vI (nI b)), none]) (st' := [vR (0, 2, 0), vI (nI b)]) (σ' := σ) fl4_ok [(51, .iload 6), (53, .aload_n 0), (54, .getfield 10), (57, .getfield 98)] (by decide +kernel) rfl rfl ?_
    refine g_callVp (0, 2, 0) [] [vI (nI b)] vl_RX4_157 mi_X3_size (ct_size l x0 2 (by decide)) rfl rfl rfl rfl ⟨Nat.le_of_ble_eq_true rfl, Nat.le_of_ble_eq_true rfl⟩ rfl (Nat.le_of_ble_eq_true rfl) (by decide +kernel) ?_
    refine g_icmp_ge (off := 58) (tgt := 121) (by decide +kernel) (by decide) (fun zc63 => ?_) (fun zc63 => ?_)
    · rw [nI_leI (by have := ha_N x0 2 (by decide); have : mst 2 ≤ 30 := mst_le 2; omega) (by have := ha_N x0 2 (by decide); have : mst 2 ≤ 30 := mst_le 2; omega)] at zc63
      refine g_blk (pc' := 30) (loc' := [some (vR (7, 0, 0)), some (vI w), some (vI ((p).1)), some (vI ((p).2.1)), some (vI ((p).2.2)), some (vI ((nI a) + (1 : Int32))), some (vI (nI b)), none]) (st' := []) (σ' := σ) fl4_ok [(121, .iinc 5 1), (124, .goto (-94))] (by decide +kernel) rfl rfl ?_
      rw [nI_1]
      exact g_sub (loc' := [some (vR (7, 0, 0)), some (vI w), some (vI p.1), some (vI p.2.1), some (vI p.2.2), some (vI (nI (a + 1))), none, none]) ⟨Or.inr rfl, Or.inr rfl, Or.inr rfl, Or.inr rfl, Or.inr rfl, Or.inr rfl, Or.inl rfl, Or.inr rfl, trivial⟩ (by rw [← hd] at kk; exact kk)
    · rw [nI_leI (by have := ha_N x0 2 (by decide); have : mst 2 ≤ 30 := mst_le 2; omega) (by have := ha_N x0 2 (by decide); have : mst 2 ≤ 30 := mst_le 2; omega)] at zc63
      exact absurd (by omega) zc63
  | succ k ih =>
    intro b p hk hd
    rw [frI] at hd
    refine g_blk (pc' := 60) (loc' := [some (vR (7, 0, 0)), some (vI w), some (vI ((p).1)), some (vI ((p).2.1)), some (vI ((p).2.2)), some (vI (nI a)), some (vI (nI b)), none]) (st' := [vR (0, 2, 0), vI (nI b)]) (σ' := σ) fl4_ok [(51, .iload 6), (53, .aload_n 0), (54, .getfield 10), (57, .getfield 98)] (by decide +kernel) rfl rfl ?_
    refine g_callVp (0, 2, 0) [] [vI (nI b)] vl_RX4_157 mi_X3_size (ct_size l x0 2 (by decide)) rfl rfl rfl rfl ⟨Nat.le_of_ble_eq_true rfl, Nat.le_of_ble_eq_true rfl⟩ rfl (Nat.le_of_ble_eq_true rfl) (by decide +kernel) ?_
    refine g_icmp_ge (off := 58) (tgt := 121) (by decide +kernel) (by decide) (fun zc63 => ?_) (fun zc63 => ?_)
    · rw [nI_leI (by have := ha_N x0 2 (by decide); have : mst 2 ≤ 30 := mst_le 2; omega) (by have := ha_N x0 2 (by decide); have : mst 2 ≤ 30 := mst_le 2; omega)] at zc63
      exact absurd zc63 (by omega)
    · rw [nI_leI (by have := ha_N x0 2 (by decide); have : mst 2 ≤ 30 := mst_le 2; omega) (by have := ha_N x0 2 (by decide); have : mst 2 ≤ 30 := mst_le 2; omega)] at zc63
      refine g_blk (pc' := 74) (loc' := [some (vR (7, 0, 0)), some (vI w), some (vI ((p).1)), some (vI ((p).2.1)), some (vI ((p).2.2)), some (vI (nI a)), some (vI (nI b)), none]) (st' := [vI (nI b), vI (nI a), vR (2, 0, 0)]) (σ' := σ) fl4_ok [(66, .aload_n 0), (67, .getfield 10), (70, .iload 5), (72, .iload 6)] (by decide +kernel) rfl rfl ?_
      refine g_callVp (2, 0, 0) [vI (nI a), vI (nI b)] [] vl_RX4_121 mi_X1_canExchange (c_X1_canExchange l x0 (nI a) (nI b)) rfl rfl rfl rfl ⟨Nat.le_of_ble_eq_true rfl, Nat.le_of_ble_eq_true rfl⟩ rfl (Nat.le_of_ble_eq_true rfl) (by decide +kernel) ?_
      refine g_if_eq (off := 17) (tgt := 94) (by decide +kernel) (by decide) (fun zc77 => ?_) (fun zc77 => ?_)
      · refine g_blk (pc' := 102) (loc' := [some (vR (7, 0, 0)), some (vI w), some (vI ((p).1)), some (vI ((p).2.1)), some (vI ((p).2.2)), some (vI (nI a)), some (vI (nI b)), some (vI ((p).2.2))]) (st' := [vI ((p).2.2), vI ((p).2.2)]) (σ' := σ) fl4_ok [(94, .iload 4), (96, .istore 7), (98, .iload 7), (100, .iload 4)] (by decide +kernel) rfl rfl ?_
        refine g_icmp_ge (off := 13) (tgt := 115) (by decide +kernel) (by decide) (fun zc102 => ?_) (fun zc102 => ?_)
        · refine g_blk (pc' := 51) (loc' := [some (vR (7, 0, 0)), some (vI w), some (vI ((p).1)), some (vI ((p).2.1)), some (vI ((p).2.2)), some (vI (nI a)), some (vI ((nI b) + (1 : Int32))), some (vI ((p).2.2))]) (st' := []) (σ' := σ) fl4_ok [(115, .iinc 6 1), (118, .goto (-67))] (by decide +kernel) rfl rfl ?_
          have hstep : frStep (habs σ 0) a b p = ((p).1, ((p).2.1, (p).2.2)) := by rw [frStep, if_pos zc77, if_pos zc102]
          have hih := ih (b + 1) (frStep (habs σ 0) a b p) (by omega) hd
          rw [hstep] at hih
          rw [nI_1]
          exact g_sub (loc' := [some (vR (7, 0, 0)), some (vI w), some (vI ((p).1)), some (vI ((p).2.1)), some (vI ((p).2.2)), some (vI (nI a)), some (vI (nI (b + 1))), none]) ⟨Or.inr rfl, Or.inr rfl, Or.inr rfl, Or.inr rfl, Or.inr rfl, Or.inr rfl, Or.inr rfl, Or.inl rfl, trivial⟩ hih
        · refine g_blk (pc' := 51) (loc' := [some (vR (7, 0, 0)), some (vI w), some (vI (nI a)), some (vI (nI b)), some (vI ((p).2.2)), some (vI (nI a)), some (vI ((nI b) + (1 : Int32))), some (vI ((p).2.2))]) (st' := []) (σ' := σ) fl4_ok [(105, .iload 5), (107, .istore_n 2), (108, .iload 6), (110, .istore_n 3), (111, .iload 7), (113, .istore 4), (115, .iinc 6 1), (118, .goto (-67))] (by decide +kernel) rfl rfl ?_
          have hstep : frStep (habs σ 0) a b p = (nI a, (nI b, (p).2.2)) := by rw [frStep, if_pos zc77, if_neg zc102]
          have hih := ih (b + 1) (frStep (habs σ 0) a b p) (by omega) hd
          rw [hstep] at hih
          rw [nI_1]
          exact g_sub (loc' := [some (vR (7, 0, 0)), some (vI w), some (vI (nI a)), some (vI (nI b)), some (vI ((p).2.2)), some (vI (nI a)), some (vI (nI (b + 1))), none]) ⟨Or.inr rfl, Or.inr rfl, Or.inr rfl, Or.inr rfl, Or.inr rfl, Or.inr rfl, Or.inr rfl, Or.inl rfl, trivial⟩ hih
      · refine g_blk (pc' := 88) (loc' := [some (vR (7, 0, 0)), some (vI w), some (vI ((p).1)), some (vI ((p).2.1)), some (vI ((p).2.2)), some (vI (nI a)), some (vI (nI b)), none]) (st' := [vI (nI b), vI (nI a), vR (2, 0, 0)]) (σ' := σ) fl4_ok [(80, .aload_n 0), (81, .getfield 10), (84, .iload 5), (86, .iload 6)] (by decide +kernel) rfl rfl ?_
        refine g_callVp (2, 0, 0) [vI (nI a), vI (nI b)] [] vl_RX4_193 mi_X1_spreadIfExchanged (c_X1_spreadIfExchanged l x0 (nI a) (nI b)) rfl rfl rfl rfl ⟨Nat.le_of_ble_eq_true rfl, Nat.le_of_ble_eq_true rfl⟩ rfl (Nat.le_of_ble_eq_true rfl) (by decide +kernel) ?_
        refine g_blk (pc' := 102) (loc' := [some (vR (7, 0, 0)), some (vI w), some (vI ((p).1)), some (vI ((p).2.1)), some (vI ((p).2.2)), some (vI (nI a)), some (vI (nI b)), some (vI (spreadIfS (habs σ 0) (nI a) (nI b)))]) (st' := [vI ((p).2.2), vI (spreadIfS (habs σ 0) (nI a) (nI b))]) (σ' := σ) fl4_ok [(91, .goto 5), (96, .istore 7), (98, .iload 7), (100, .iload 4)] (by decide +kernel) rfl rfl ?_
        refine g_icmp_ge (off := 13) (tgt := 115) (by decide +kernel) (by decide) (fun zc102 => ?_) (fun zc102 => ?_)
        · refine g_blk (pc' := 51) (loc' := [some (vR (7, 0, 0)), some (vI w), some (vI ((p).1)), some (vI ((p).2.1)), some (vI ((p).2.2)), some (vI (nI a)), some (vI ((nI b) + (1 : Int32))), some (vI (spreadIfS (habs σ 0) (nI a) (nI b)))]) (st' := []) (σ' := σ) fl4_ok [(115, .iinc 6 1), (118, .goto (-67))] (by decide +kernel) rfl rfl ?_
          have hstep : frStep (habs σ 0) a b p = ((p).1, ((p).2.1, (p).2.2)) := by rw [frStep, if_neg zc77, if_pos zc102]
          have hih := ih (b + 1) (frStep (habs σ 0) a b p) (by omega) hd
          rw [hstep] at hih
          rw [nI_1]
          exact g_sub (loc' := [some (vR (7, 0, 0)), some (vI w), some (vI ((p).1)), some (vI ((p).2.1)), some (vI ((p).2.2)), some (vI (nI a)), some (vI (nI (b + 1))), none]) ⟨Or.inr rfl, Or.inr rfl, Or.inr rfl, Or.inr rfl, Or.inr rfl, Or.inr rfl, Or.inr rfl, Or.inl rfl, trivial⟩ hih
        · refine g_blk (pc' := 51) (loc' := [some (vR (7, 0, 0)), some (vI w), some (vI (nI a)), some (vI (nI b)), some (vI (spreadIfS (habs σ 0) (nI a) (nI b))), some (vI (nI a)), some (vI ((nI b) + (1 : Int32))), some (vI (spreadIfS (habs σ 0) (nI a) (nI b)))]) (st' := []) (σ' := σ) fl4_ok [(105, .iload 5), (107, .istore_n 2), (108, .iload 6), (110, .istore_n 3), (111, .iload 7), (113, .istore 4), (115, .iinc 6 1), (118, .goto (-67))] (by decide +kernel) rfl rfl ?_
          have hstep : frStep (habs σ 0) a b p = (nI a, (nI b, spreadIfS (habs σ 0) (nI a) (nI b))) := by rw [frStep, if_neg zc77, if_neg zc102]
          have hih := ih (b + 1) (frStep (habs σ 0) a b p) (by omega) hd
          rw [hstep] at hih
          rw [nI_1]
          exact g_sub (loc' := [some (vR (7, 0, 0)), some (vI w), some (vI (nI a)), some (vI (nI b)), some (vI (spreadIfS (habs σ 0) (nI a) (nI b))), some (vI (nI a)), some (vI (nI (b + 1))), none]) ⟨Or.inr rfl, Or.inr rfl, Or.inr rfl, Or.inr rfl, Or.inr rfl, Or.inr rfl, Or.inr rfl, Or.inl rfl, trivial⟩ hih
set_option maxHeartbeats 2000000 in
theorem lp_X4_fairer (l : Launch) {σ : Sg} {w : Int32} (x0 : HOK σ 0) (hw : ¬ isInS w 0 2 = 0) : ∀ (k a : Nat) (p : P3), a + k = (sz (habs σ 0) 2) → frO (habs σ 0) (sz (habs σ 0) 2) k a p = frS (habs σ 0) → G l (Rm 4) RX4 cX4_fairer 8 (some .int) (pureP (xfairer (habs σ 0) w) σ) 30 [some (vR (7, 0, 0)), some (vI w), some (vI ((p).1)), some (vI ((p).2.1)), some (vI ((p).2.2)), some (vI (nI a)), none, none] [] σ := by
  intro k
  induction k with
  | zero =>
    intro a p hk hd
    have hd : frS (habs σ 0) = p := hd.symm
    refine g_blk (pc' := 39) (loc' := [some (vR (7, 0, 0)), some (vI w), some (vI ((p).1)), some (vI ((p).2.1)), some (vI ((p).2.2)), some (vI (nI a)), none, none]) (st' := [vR (0, 2, 0), vI (nI a)]) (σ' := σ) fl4_ok [(30, .iload 5), (32, .aload_n 0), (33, .getfield 10), (36, .getfield 98)] (by decide +kernel) rfl rfl ?_
    refine g_callVp (0, 2, 0) [] [vI (nI a)] vl_RX4_157 mi_X3_size (ct_size l x0 2 (by decide)) rfl rfl rfl rfl ⟨Nat.le_of_ble_eq_true rfl, Nat.le_of_ble_eq_true rfl⟩ rfl (Nat.le_of_ble_eq_true rfl) (by decide +kernel) ?_
    refine g_icmp_ge (off := 85) (tgt := 127) (by decide +kernel) (by decide) (fun zc42 => ?_) (fun zc42 => ?_)
    · rw [nI_leI (by have := ha_N x0 2 (by decide); have : mst 2 ≤ 30 := mst_le 2; omega) (by have := ha_N x0 2 (by decide); have : mst 2 ≤ 30 := mst_le 2; omega)] at zc42
      refine g_blk (pc' := 130) (loc' := [some (vR (7, 0, 0)), some (vI w), some (vI ((p).1)), some (vI ((p).2.1)), some (vI ((p).2.2)), some (vI (nI a)), none, none]) (st' := [vI (-6 : Int32), vI ((p).1)]) (σ' := σ) fl4_ok [(127, .iload_n 2), (128, .bipush (-6))] (by decide +kernel) rfl rfl ?_
      refine g_icmp_ne (off := 6) (tgt := 136) (by decide +kernel) (by decide) (fun zc130 => ?_) (fun zc130 => ?_)
      · refine g_blk (pc' := 137) (loc' := [some (vR (7, 0, 0)), some (vI w), some (vI ((p).1)), some (vI ((p).2.1)), some (vI ((p).2.2)), some (vI (nI a)), none, none]) (st' := [vI w]) (σ' := σ) fl4_ok [(136, .iload_n 1)] (by decide +kernel) rfl rfl ?_
        by_cases zq0 : w = 0
        · refine g_look (dflt := 31) (ps := #[(0, 27), (1, 29)]) (len := 27) (off := 27) (tgt := 164) (by decide +kernel) (by decide) (by rw [zq0]; decide) (by decide) ?_
          refine g_blk (pc' := 165) (loc' := [some (vR (7, 0, 0)), some (vI w), some (vI ((p).1)), some (vI ((p).2.1)), some (vI ((p).2.2)), some (vI (nI a)), none, none]) (st' := [vI ((p).1)]) (σ' := σ) fl4_ok [(164, .iload_n 2)] (by decide +kernel) rfl rfl ?_
          exact g_iret (by decide +kernel) (by rw [xfairer, if_pos hw, hd, if_pos zc130, if_pos zq0]; exact ⟨rfl, rfl⟩)
        · by_cases zq1 : w = 1
          · refine g_look (dflt := 31) (ps := #[(0, 27), (1, 29)]) (len := 27) (off := 29) (tgt := 166) (by decide +kernel) (by decide) (by rw [zq1]; decide) (by decide) ?_
            refine g_blk (pc' := 167) (loc' := [some (vR (7, 0, 0)), some (vI w), some (vI ((p).1)), some (vI ((p).2.1)), some (vI ((p).2.2)), some (vI (nI a)), none, none]) (st' := [vI ((p).2.1)]) (σ' := σ) fl4_ok [(166, .iload_n 3)] (by decide +kernel) rfl rfl ?_
            exact g_iret (by decide +kernel) (by rw [xfairer, if_pos hw, hd, if_pos zc130, if_neg zq0, if_pos zq1]; exact ⟨rfl, rfl⟩)
          · refine g_look (dflt := 31) (ps := #[(0, 27), (1, 29)]) (len := 27) (off := 31) (tgt := 168) (by decide +kernel) (by decide) (by show Op.lookupswitch.offset [(0, 27), (1, 29)] 31 w.toInt = 31; rw [lv_osw (a := 0) zq0 rfl, lv_osw (a := 1) zq1 rfl]; rfl) (by decide) ?_
            refine g_blk (pc' := 170) (loc' := [some (vR (7, 0, 0)), some (vI w), some (vI ((p).1)), some (vI ((p).2.1)), some (vI ((p).2.2)), some (vI (nI a)), none, none]) (st' := [vI ((p).2.2)]) (σ' := σ) fl4_ok [(168, .iload 4)] (by decide +kernel) rfl rfl ?_
            exact g_iret (by decide +kernel) (by rw [xfairer, if_pos hw, hd, if_pos zc130, if_neg zq0, if_neg zq1]; exact ⟨rfl, rfl⟩)
      · refine g_blk (pc' := 135) (loc' := [some (vR (7, 0, 0)), some (vI w), some (vI ((p).1)), some (vI ((p).2.1)), some (vI ((p).2.2)), some (vI (nI a)), none, none]) (st' := [vI (-6 : Int32)]) (σ' := σ) fl4_ok [(133, .bipush (-6))] (by decide +kernel) rfl rfl ?_
        exact g_iret (by decide +kernel) (by rw [xfairer, if_pos hw, hd, if_neg (not_not_intro zc130)]; exact ⟨rfl, rfl⟩)
    · rw [nI_leI (by have := ha_N x0 2 (by decide); have : mst 2 ≤ 30 := mst_le 2; omega) (by have := ha_N x0 2 (by decide); have : mst 2 ≤ 30 := mst_le 2; omega)] at zc42
      exact absurd (by omega) zc42
  | succ k ih =>
    intro a p hk hd
    rw [frO] at hd
    refine g_blk (pc' := 39) (loc' := [some (vR (7, 0, 0)), some (vI w), some (vI ((p).1)), some (vI ((p).2.1)), some (vI ((p).2.2)), some (vI (nI a)), none, none]) (st' := [vR (0, 2, 0), vI (nI a)]) (σ' := σ) fl4_ok [(30, .iload 5), (32, .aload_n 0), (33, .getfield 10), (36, .getfield 98)] (by decide +kernel) rfl rfl ?_
    refine g_callVp (0, 2, 0) [] [vI (nI a)] vl_RX4_157 mi_X3_size (ct_size l x0 2 (by decide)) rfl rfl rfl rfl ⟨Nat.le_of_ble_eq_true rfl, Nat.le_of_ble_eq_true rfl⟩ rfl (Nat.le_of_ble_eq_true rfl) (by decide +kernel) ?_
    refine g_icmp_ge (off := 85) (tgt := 127) (by decide +kernel) (by decide) (fun zc42 => ?_) (fun zc42 => ?_)
    · rw [nI_leI (by have := ha_N x0 2 (by decide); have : mst 2 ≤ 30 := mst_le 2; omega) (by have := ha_N x0 2 (by decide); have : mst 2 ≤ 30 := mst_le 2; omega)] at zc42
      exact absurd zc42 (by omega)
    · rw [nI_leI (by have := ha_N x0 2 (by decide); have : mst 2 ≤ 30 := mst_le 2; omega) (by have := ha_N x0 2 (by decide); have : mst 2 ≤ 30 := mst_le 2; omega)] at zc42
      refine g_blk (pc' := 51) (loc' := [some (vR (7, 0, 0)), some (vI w), some (vI ((p).1)), some (vI ((p).2.1)), some (vI ((p).2.2)), some (vI (nI a)), some (vI ((nI a) + (1 : Int32))), none]) (st' := []) (σ' := σ) fl4_ok [(45, .iload 5), (47, .iconst 1), (48, .iadd), (49, .istore 6)] (by decide +kernel) rfl rfl ?_
      rw [nI_1]
      refine g_sub (loc' := [some (vR (7, 0, 0)), some (vI w), some (vI ((p).1)), some (vI ((p).2.1)), some (vI ((p).2.2)), some (vI (nI a)), some (vI (nI (a + 1))), none]) ⟨Or.inr rfl, Or.inr rfl, Or.inr rfl, Or.inr rfl, Or.inr rfl, Or.inr rfl, Or.inr rfl, Or.inr rfl, trivial⟩ ?_
      exact lp_X4_fairerI l x0 (by omega) (ih (a + 1) (frI (habs σ 0) a ((sz (habs σ 0) 2) - (a + 1)) (a + 1) p) (by omega) hd) ((sz (habs σ 0) 2) - (a + 1)) (a + 1) p (by omega) rfl
set_option maxHeartbeats 2000000 in
theorem c_X4_fairer (l : Launch) {σ : Sg} (hX : XOK σ) (w : Int32)  : Con l 4 yX4_fairer cX4_fairer 8 (some .int) [vR (7, 0, 0), vI w] σ (pureP (xfairer (habs σ 0) w) σ) := by
  refine con_of pn_X4_fairer (Nat.le_of_ble_eq_true rfl) (fun hPK hok => ?_)
  show G l (Rm 4) RX4 cX4_fairer 8 (some .int) _ 0 [some (vR (7, 0, 0)), some (vI w), none, none, none, none, none, none] [] σ
  obtain ⟨x0, x1, x2, x3, x4, x5, x6⟩ := id hX
  refine g_blk (pc' := 3) (loc' := [some (vR (7, 0, 0)), some (vI w), none, none, none, none, none, none]) (st' := [vI (2 : Int32), vI (0 : Int32), vI w]) (σ' := σ) fl4_ok [(0, .iload_n 1), (1, .iconst 0), (2, .iconst 2)] (by decide +kernel) rfl rfl ?_
  refine g_callSp [vI w, vI (0 : Int32), vI (2 : Int32)] [] sl_RX4_62 mi_X4_isIn (c_X4_isIn l w (0 : Int32) (2 : Int32)) rfl ⟨Nat.le_of_ble_eq_true rfl, Nat.le_of_ble_eq_true rfl⟩ rfl (Nat.le_of_ble_eq_true rfl) (by decide +kernel) ?_
  refine g_if_ne (off := 6) (tgt := 12) (by decide +kernel) (by decide) (fun zc6 => ?_) (fun zc6 => ?_)
  · refine g_blk (pc' := 22) (loc' := [some (vR (7, 0, 0)), some (vI w), some (vI (-6 : Int32)), some (vI (-6 : Int32)), none, none, none, none]) (st' := [vR (2, 0, 0)]) (σ' := σ) fl4_ok [(12, .bipush (-6)), (14, .istore_n 2), (15, .bipush (-6)), (17, .istore_n 3), (18, .aload_n 0), (19, .getfield 10)] (by decide +kernel) rfl rfl ?_
    refine g_callVp (2, 0, 0) [] [] vl_RX4_172 mi_X1_plannedSpread (c_X1_plannedSpread l x0) rfl rfl rfl rfl ⟨Nat.le_of_ble_eq_true rfl, Nat.le_of_ble_eq_true rfl⟩ rfl (Nat.le_of_ble_eq_true rfl) (by decide +kernel) ?_
    refine g_blk (pc' := 30) (loc' := [some (vR (7, 0, 0)), some (vI w), some (vI (-6 : Int32)), some (vI (-6 : Int32)), some (vI (spreadS (habs σ 0) 1 (-6) (-6) 0)), some (vI (0 : Int32)), none, none]) (st' := []) (σ' := σ) fl4_ok [(25, .istore 4), (27, .iconst 0), (28, .istore 5)] (by decide +kernel) rfl rfl ?_
    refine g_sub (loc' := [some (vR (7, 0, 0)), some (vI w), some (vI ((((-6, (-6, spreadS (habs σ 0) 1 (-6) (-6) 0)) : P3)).1)), some (vI ((((-6, (-6, spreadS (habs σ 0) 1 (-6) (-6) 0)) : P3)).2.1)), some (vI ((((-6, (-6, spreadS (habs σ 0) 1 (-6) (-6) 0)) : P3)).2.2)), some (vI (nI 0)), none, none]) ⟨Or.inr rfl, Or.inr rfl, Or.inr rfl, Or.inr rfl, Or.inr rfl, Or.inr rfl, Or.inr rfl, Or.inr rfl, trivial⟩ ?_
    exact lp_X4_fairer l x0 zc6 (sz (habs σ 0) 2) 0 _ (by omega) rfl
  · refine g_blk (pc' := 11) (loc' := [some (vR (7, 0, 0)), some (vI w), none, none, none, none, none, none]) (st' := [vI (-2 : Int32)]) (σ' := σ) fl4_ok [(9, .bipush (-2))] (by decide +kernel) rfl rfl ?_
    exact g_iret (by decide +kernel) (by rw [xfairer, if_neg (not_not_intro zc6)]; exact ⟨rfl, rfl⟩)
set_option maxHeartbeats 2000000 in
theorem lp_X4_fcE (l : Launch) {σ : Sg} {d : Int32} (w : Int32) (hH0 : HOK σ 0) (hH1 : HOK σ 1) : G l (Rm 6) RX4 cX4_forecast 5 (some .int) (pureP (fcA (habs σ 0) (habs σ 1, d) w) σ) 106 [some (vR (7, 0, 0)), none, some (vI w), some (vI d), none] [] σ := by
  refine g_blk (pc' := 107) (loc' := [some (vR (7, 0, 0)), none, some (vI w), some (vI d), none]) (st' := [vI w]) (σ' := σ) fl4_ok [(106, .iload_n 2)] (by decide +kernel) rfl rfl ?_
  rcases pk_ix w (n := 3) (by decide) with zq | zq | ⟨j, hj, rfl⟩
  · refine g_tabO (dflt := 51) (lo := 0) (hi := 2) (offs := #[25, 33, 49]) (len := 25) (tgt := 158) (by decide +kernel) (Or.inl (tab_lo zq)) (by decide) ?_
    refine g_blk (pc' := 162) (loc' := [some (vR (7, 0, 0)), none, some (vI w), some (vI d), none]) (st' := [vR (2, 0, 1)]) (σ' := σ) fl4_ok [(158, .aload_n 0), (159, .getfield 16)] (by decide +kernel) rfl rfl ?_
    refine g_callVp (2, 0, 1) [] [] vl_RX4_190 mi_X1_greatestDirt (c_X1_greatestDirt l hH1) rfl rfl rfl rfl ⟨Nat.le_of_ble_eq_true rfl, Nat.le_of_ble_eq_true rfl⟩ rfl (Nat.le_of_ble_eq_true rfl) (by decide +kernel) ?_
    exact g_iret (by decide +kernel) (by rw [fcA, sw_lo zq]; exact ⟨rfl, rfl⟩)
  · refine g_tabO (dflt := 51) (lo := 0) (hi := 2) (offs := #[25, 33, 49]) (len := 25) (tgt := 158) (by decide +kernel) (Or.inr (tab_hi 2 (by decide) zq)) (by decide) ?_
    refine g_blk (pc' := 162) (loc' := [some (vR (7, 0, 0)), none, some (vI w), some (vI d), none]) (st' := [vR (2, 0, 1)]) (σ' := σ) fl4_ok [(158, .aload_n 0), (159, .getfield 16)] (by decide +kernel) rfl rfl ?_
    refine g_callVp (2, 0, 1) [] [] vl_RX4_190 mi_X1_greatestDirt (c_X1_greatestDirt l hH1) rfl rfl rfl rfl ⟨Nat.le_of_ble_eq_true rfl, Nat.le_of_ble_eq_true rfl⟩ rfl (Nat.le_of_ble_eq_true rfl) (by decide +kernel) ?_
    exact g_iret (by decide +kernel) (by rw [fcA, sw_hi zq]; exact ⟨rfl, rfl⟩)
  · match j, hj with
    | 0, hj =>
      refine g_tabI (dflt := 51) (lo := 0) (hi := 2) (offs := #[25, 33, 49]) (len := 25) (off := 25) (tgt := 132) (by decide +kernel) (by decide) (by decide) rfl (by decide) ?_
      refine g_blk (pc' := 136) (loc' := [some (vR (7, 0, 0)), none, some (vI (nI 0)), some (vI d), none]) (st' := [vR (2, 0, 1)]) (σ' := σ) fl4_ok [(132, .aload_n 0), (133, .getfield 16)] (by decide +kernel) rfl rfl ?_
      refine g_callVp (2, 0, 1) [] [] vl_RX4_169 mi_X1_spread (c_X1_spread l hH1) rfl rfl rfl rfl ⟨Nat.le_of_ble_eq_true rfl, Nat.le_of_ble_eq_true rfl⟩ rfl (Nat.le_of_ble_eq_true rfl) (by decide +kernel) ?_
      exact g_iret (by decide +kernel) (by rw [fcA, sw_in (by decide) hj]; exact ⟨rfl, rfl⟩)
    | 1, hj =>
      refine g_tabI (dflt := 51) (lo := 0) (hi := 2) (offs := #[25, 33, 49]) (len := 25) (off := 33) (tgt := 140) (by decide +kernel) (by decide) (by decide) rfl (by decide) ?_
      refine g_blk (pc' := 155) (loc' := [some (vR (7, 0, 0)), none, some (vI (nI 1)), some (vI d), none]) (st' := [vI (((habs σ 1).2 7) - ((habs σ 0).2 7))]) (σ' := σ) fl4_ok [(140, .aload_n 0), (141, .getfield 16), (144, .getfield 163), (147, .aload_n 0), (148, .getfield 10), (151, .getfield 163), (154, .isub)] (by decide +kernel) rfl rfl ?_
      exact g_iret (by decide +kernel) (by rw [fcA, sw_in (by decide) hj]; exact ⟨rfl, rfl⟩)
    | 2, hj =>
      refine g_tabI (dflt := 51) (lo := 0) (hi := 2) (offs := #[25, 33, 49]) (len := 25) (off := 49) (tgt := 156) (by decide +kernel) (by decide) (by decide) rfl (by decide) ?_
      refine g_blk (pc' := 157) (loc' := [some (vR (7, 0, 0)), none, some (vI (nI 2)), some (vI d), none]) (st' := [vI d]) (σ' := σ) fl4_ok [(156, .iload_n 3)] (by decide +kernel) rfl rfl ?_
      exact g_iret (by decide +kernel) (by rw [fcA, sw_in (by decide) hj]; exact ⟨rfl, rfl⟩)
    | j + 3, hj => exact absurd hj (by omega)
set_option maxHeartbeats 2000000 in
theorem lp_X4_fc (l : Launch) {σ0 : Sg} {m : Nat} {S0 : HA} {Qf : HA × Int32} (w : Int32) (hm : m ≤ 60) : ∀ (k i : Nat) (d : Int32) (σ : Sg), HOK σ 1 → HOK σ 0 → HInv (habs σ 1) → i + k = m → fcF k (habs σ 1) d = Qf → FrH 1 σ0 σ → habs σ 0 = S0 → G l (Rm 6) RX4 cX4_forecast 5 (some .int) (fun o σ' => o = some (vI (fcA S0 Qf w)) ∧ HOK σ' 1 ∧ FrH 1 σ0 σ') 38 [some (vR (7, 0, 0)), some (vI (nI m)), some (vI w), some (vI d), some (vI (nI i))] [] σ := by
  intro k
  induction k with
  | zero =>
    intro i d σ hH1 hH0 hI hk hd hF hS0
    have hd : (habs σ 1, d) = Qf := hd
    refine g_blk (pc' := 41) (loc' := [some (vR (7, 0, 0)), some (vI (nI m)), some (vI w), some (vI d), some (vI (nI i))]) (st' := [vI (nI m), vI (nI i)]) (σ' := σ) fl4_ok [(38, .iload 4), (40, .iload_n 1)] (by decide +kernel) rfl rfl ?_
    refine g_icmp_ge (off := 65) (tgt := 106) (by decide +kernel) (by decide) (fun zc41 => ?_) (fun zc41 => ?_)
    · rw [nI_leI (by omega) (by omega)] at zc41
      refine g_sub (loc' := [some (vR (7, 0, 0)), none, some (vI w), some (vI d), none]) ⟨Or.inr rfl, Or.inl rfl, Or.inr rfl, Or.inr rfl, Or.inl rfl, trivial⟩ ?_
      exact g_mono (lp_X4_fcE l w hH0 hH1) (fun o σ' hp => by rw [hp.1, hp.2, ← hd, hS0]; exact ⟨rfl, hH1, hF⟩)
    · rw [nI_leI (by omega) (by omega)] at zc41
      exact absurd (by omega) zc41
  | succ k ih =>
    intro i d σ hH1 hH0 hI hk hd hF hS0
    refine g_blk (pc' := 41) (loc' := [some (vR (7, 0, 0)), some (vI (nI m)), some (vI w), some (vI d), some (vI (nI i))]) (st' := [vI (nI m), vI (nI i)]) (σ' := σ) fl4_ok [(38, .iload 4), (40, .iload_n 1)] (by decide +kernel) rfl rfl ?_
    refine g_icmp_ge (off := 65) (tgt := 106) (by decide +kernel) (by decide) (fun zc41 => ?_) (fun zc41 => ?_)
    · rw [nI_leI (by omega) (by omega)] at zc41
      exact absurd zc41 (by omega)
    · rw [nI_leI (by omega) (by omega)] at zc41
      refine g_blk (pc' := 54) (loc' := [some (vR (7, 0, 0)), some (vI (nI m)), some (vI w), some (vI d), some (vI (nI i))]) (st' := [vI (999 : Int32), vI ((habs σ 1).2 5)]) (σ' := σ) fl4_ok [(44, .aload_n 0), (45, .getfield 16), (48, .getfield 114), (51, .sipush 999)] (by decide +kernel) rfl rfl ?_
      refine g_icmp_ge (off := 52) (tgt := 106) (by decide +kernel) (by decide) (fun zc54 => ?_) (fun zc54 => ?_)
      · rw [fcF, if_pos zc54] at hd
        refine g_sub (loc' := [some (vR (7, 0, 0)), none, some (vI w), some (vI d), none]) ⟨Or.inr rfl, Or.inl rfl, Or.inr rfl, Or.inr rfl, Or.inl rfl, trivial⟩ ?_
        exact g_mono (lp_X4_fcE l w hH0 hH1) (fun o σ' hp => by rw [hp.1, hp.2, ← hd, hS0]; exact ⟨rfl, hH1, hF⟩)
      · refine g_blk (pc' := 64) (loc' := [some (vR (7, 0, 0)), some (vI (nI m)), some (vI w), some (vI d), some (vI (nI i))]) (st' := [vI ((habs σ 1).2 6)]) (σ' := σ) fl4_ok [(57, .aload_n 0), (58, .getfield 16), (61, .getfield 90)] (by decide +kernel) rfl rfl ?_
        refine g_if_ne (off := 11) (tgt := 75) (by decide +kernel) (by decide) (fun zc64 => ?_) (fun zc64 => ?_)
        · refine g_blk (pc' := 80) (loc' := [some (vR (7, 0, 0)), some (vI (nI m)), some (vI w), some (vI d), some (vI (nI i))]) (st' := [vR (2, 0, 1), vI d]) (σ' := σ) fl4_ok [(75, .iload_n 3), (76, .aload_n 0), (77, .getfield 16)] (by decide +kernel) rfl rfl ?_
          refine g_callVp (2, 0, 1) [] [vI d] vl_RX4_184 mi_X1_countOpenDeepTasks (c_X1_countOpenDeepTasks l hH1) rfl rfl rfl rfl ⟨Nat.le_of_ble_eq_true rfl, Nat.le_of_ble_eq_true rfl⟩ rfl (Nat.le_of_ble_eq_true rfl) (by decide +kernel) ?_
          refine g_blk (pc' := 89) (loc' := [some (vR (7, 0, 0)), some (vI (nI m)), some (vI w), some (vI (d + (cntDL (habs σ 1) (sz (habs σ 1) 2)))), some (vI (nI i))]) (st' := [vR (2, 0, 1)]) (σ' := σ) fl4_ok [(83, .iadd), (84, .istore_n 3), (85, .aload_n 0), (86, .getfield 16)] (by decide +kernel) rfl rfl ?_
          refine g_callV (2, 0, 1) [] [] vl_RX4_187 mi_X1_finishOpenTasks (c_X1_finishOpenTasks l hH1) rfl rfl rfl rfl ⟨Nat.le_of_ble_eq_true rfl, Nat.le_of_ble_eq_true rfl⟩ rfl (Nat.le_of_ble_eq_true rfl) (by decide +kernel) (fun o σ1 hPσ1 => ?_)
          obtain ⟨rfl, hWσ1⟩ := hPσ1
          refine g_blk (pc' := 96) (loc' := [some (vR (7, 0, 0)), some (vI (nI m)), some (vI w), some (vI (d + (cntDL (habs σ 1) (sz (habs σ 1) 2)))), some (vI (nI i))]) (st' := [vR (2, 0, 1)]) (σ' := σ1) fl4_ok [(92, .aload_n 0), (93, .getfield 16)] (by decide +kernel) rfl rfl ?_
          refine g_callV (2, 0, 1) [] [] vl_RX4_118 mi_X1_endWeek (c_X1_endWeek l hWσ1.2.1) rfl rfl rfl rfl ⟨Nat.le_of_ble_eq_true rfl, Nat.le_of_ble_eq_true rfl⟩ rfl (Nat.le_of_ble_eq_true rfl) (by decide +kernel) (fun o σ2 hPσ2 => ?_)
          obtain ⟨rfl, hWσ2⟩ := hPσ2
          refine g_blk (pc' := 38) (loc' := [some (vR (7, 0, 0)), some (vI (nI m)), some (vI w), some (vI (d + (cntDL (habs σ 1) (sz (habs σ 1) 2)))), some (vI ((nI i) + (1 : Int32)))]) (st' := []) (σ' := σ2) fl4_ok [(99, .pop), (100, .iinc 4 1), (103, .goto (-65))] (by decide +kernel) rfl rfl ?_
          rw [fcF, if_neg zc54, if_pos zc64] at hd
          rw [nI_1]
          have hoth := hw_other (h2 := 0) (by decide) ((hWσ1.2.2).tr hWσ2.2.2)
          exact ih (i + 1) _ σ2 hWσ2.2.1 (hoth.2 hH0) (by rw [hWσ2.1, hWσ1.1]; exact inv_end _) (by omega) (by rw [hWσ2.1, hWσ1.1]; exact hd) (hF.tr ((hWσ1.2.2).tr hWσ2.2.2)) (hoth.1.trans hS0)
        · refine g_blk (pc' := 71) (loc' := [some (vR (7, 0, 0)), some (vI (nI m)), some (vI w), some (vI d), some (vI (nI i))]) (st' := [vR (2, 0, 1)]) (σ' := σ) fl4_ok [(67, .aload_n 0), (68, .getfield 16)] (by decide +kernel) rfl rfl ?_
          refine g_callV (2, 0, 1) [] [] vl_RX4_94 mi_X1_planWeek (c_X1_planWeek l hH1 (hI.2 zc64)) rfl rfl rfl rfl ⟨Nat.le_of_ble_eq_true rfl, Nat.le_of_ble_eq_true rfl⟩ rfl (Nat.le_of_ble_eq_true rfl) (by decide +kernel) (fun o σ3 hPσ3 => ?_)
          obtain ⟨rfl, hWσ3⟩ := hPσ3
          refine g_blk (pc' := 80) (loc' := [some (vR (7, 0, 0)), some (vI (nI m)), some (vI w), some (vI d), some (vI (nI i))]) (st' := [vR (2, 0, 1), vI d]) (σ' := σ3) fl4_ok [(74, .pop), (75, .iload_n 3), (76, .aload_n 0), (77, .getfield 16)] (by decide +kernel) rfl rfl ?_
          refine g_callVp (2, 0, 1) [] [vI d] vl_RX4_184 mi_X1_countOpenDeepTasks (c_X1_countOpenDeepTasks l hWσ3.2.1) rfl rfl rfl rfl ⟨Nat.le_of_ble_eq_true rfl, Nat.le_of_ble_eq_true rfl⟩ rfl (Nat.le_of_ble_eq_true rfl) (by decide +kernel) ?_
          refine g_blk (pc' := 89) (loc' := [some (vR (7, 0, 0)), some (vI (nI m)), some (vI w), some (vI (d + (cntDL (habs σ3 1) (sz (habs σ3 1) 2)))), some (vI (nI i))]) (st' := [vR (2, 0, 1)]) (σ' := σ3) fl4_ok [(83, .iadd), (84, .istore_n 3), (85, .aload_n 0), (86, .getfield 16)] (by decide +kernel) rfl rfl ?_
          refine g_callV (2, 0, 1) [] [] vl_RX4_187 mi_X1_finishOpenTasks (c_X1_finishOpenTasks l hWσ3.2.1) rfl rfl rfl rfl ⟨Nat.le_of_ble_eq_true rfl, Nat.le_of_ble_eq_true rfl⟩ rfl (Nat.le_of_ble_eq_true rfl) (by decide +kernel) (fun o σ4 hPσ4 => ?_)
          obtain ⟨rfl, hWσ4⟩ := hPσ4
          refine g_blk (pc' := 96) (loc' := [some (vR (7, 0, 0)), some (vI (nI m)), some (vI w), some (vI (d + (cntDL (habs σ3 1) (sz (habs σ3 1) 2)))), some (vI (nI i))]) (st' := [vR (2, 0, 1)]) (σ' := σ4) fl4_ok [(92, .aload_n 0), (93, .getfield 16)] (by decide +kernel) rfl rfl ?_
          refine g_callV (2, 0, 1) [] [] vl_RX4_118 mi_X1_endWeek (c_X1_endWeek l hWσ4.2.1) rfl rfl rfl rfl ⟨Nat.le_of_ble_eq_true rfl, Nat.le_of_ble_eq_true rfl⟩ rfl (Nat.le_of_ble_eq_true rfl) (by decide +kernel) (fun o σ5 hPσ5 => ?_)
          obtain ⟨rfl, hWσ5⟩ := hPσ5
          refine g_blk (pc' := 38) (loc' := [some (vR (7, 0, 0)), some (vI (nI m)), some (vI w), some (vI (d + (cntDL (habs σ3 1) (sz (habs σ3 1) 2)))), some (vI ((nI i) + (1 : Int32)))]) (st' := []) (σ' := σ5) fl4_ok [(99, .pop), (100, .iinc 4 1), (103, .goto (-65))] (by decide +kernel) rfl rfl ?_
          rw [fcF, if_neg zc54, if_neg (not_not_intro zc64)] at hd
          rw [hWσ3.1]
          rw [nI_1]
          have hoth := hw_other (h2 := 0) (by decide) (((hWσ3.2.2).tr hWσ4.2.2).tr hWσ5.2.2)
          exact ih (i + 1) _ σ5 hWσ5.2.1 (hoth.2 hH0) (by rw [hWσ5.1, hWσ4.1, hWσ3.1]; exact inv_end _) (by omega) (by rw [hWσ5.1, hWσ4.1, hWσ3.1]; exact hd) (hF.tr (((hWσ3.2.2).tr hWσ4.2.2).tr hWσ5.2.2)) (hoth.1.trans hS0)
set_option maxHeartbeats 2000000 in
theorem c_X4_forecast (l : Launch) {σ : Sg} (n w : Int32) (hX : XOK σ)  : Con l 6 yX4_forecast cX4_forecast 5 (some .int) [vR (7, 0, 0), vI n, vI w] σ (fun o σ' => o = some (vI ((xforecast (habs σ 0) n w, ((habs σ 0, (hist σ, pv σ)) : XS))).1) ∧ XW ((xforecast (habs σ 0) n w, ((habs σ 0, (hist σ, pv σ)) : XS))).2 σ σ') := by
  refine con_of pn_X4_forecast (Nat.le_of_ble_eq_true rfl) (fun hPK hok => ?_)
  show G l (Rm 6) RX4 cX4_forecast 5 (some .int) _ 0 [some (vR (7, 0, 0)), some (vI n), some (vI w), none, none] [] σ
  obtain ⟨x0, x1, x2, x3, x4, x5, x6⟩ := id hX
  refine g_blk (pc' := 4) (loc' := [some (vR (7, 0, 0)), some (vI n), some (vI w), none, none]) (st' := [vI (60 : Int32), vI (0 : Int32), vI n]) (σ' := σ) fl4_ok [(0, .iload_n 1), (1, .iconst 0), (2, .bipush 60)] (by decide +kernel) rfl rfl ?_
  refine g_callSp [vI n, vI (0 : Int32), vI (60 : Int32)] [] sl_RX4_62 mi_X4_isIn (c_X4_isIn l n (0 : Int32) (60 : Int32)) rfl ⟨Nat.le_of_ble_eq_true rfl, Nat.le_of_ble_eq_true rfl⟩ rfl (Nat.le_of_ble_eq_true rfl) (by decide +kernel) ?_
  refine g_if_eq (off := 12) (tgt := 19) (by decide +kernel) (by decide) (fun zc7 => ?_) (fun zc7 => ?_)
  · refine g_blk (pc' := 21) (loc' := [some (vR (7, 0, 0)), some (vI n), some (vI w), none, none]) (st' := [vI (-2 : Int32)]) (σ' := σ) fl4_ok [(19, .bipush (-2))] (by decide +kernel) rfl rfl ?_
    exact g_iret (by decide +kernel) ⟨by show some _ = some (vI (xforecast _ _ _)); rw [xforecast, if_pos zc7], XW.rf hX⟩
  · refine g_blk (pc' := 13) (loc' := [some (vR (7, 0, 0)), some (vI n), some (vI w), none, none]) (st' := [vI (3 : Int32), vI (0 : Int32), vI w]) (σ' := σ) fl4_ok [(10, .iload_n 2), (11, .iconst 0), (12, .iconst 3)] (by decide +kernel) rfl rfl ?_
    refine g_callSp [vI w, vI (0 : Int32), vI (3 : Int32)] [] sl_RX4_62 mi_X4_isIn (c_X4_isIn l w (0 : Int32) (3 : Int32)) rfl ⟨Nat.le_of_ble_eq_true rfl, Nat.le_of_ble_eq_true rfl⟩ rfl (Nat.le_of_ble_eq_true rfl) (by decide +kernel) ?_
    refine g_if_ne (off := 6) (tgt := 22) (by decide +kernel) (by decide) (fun zc16 => ?_) (fun zc16 => ?_)
    · refine g_blk (pc' := 30) (loc' := [some (vR (7, 0, 0)), some (vI n), some (vI w), none, none]) (st' := [vR (2, 0, 0), vR (2, 0, 1)]) (σ' := σ) fl4_ok [(22, .aload_n 0), (23, .getfield 16), (26, .aload_n 0), (27, .getfield 10)] (by decide +kernel) rfl rfl ?_
      refine g_callV (2, 0, 1) [vR (2, 0, 0)] [] vl_RX4_181 mi_X1_copyFrom (c_X1_copyFrom l x1 x0 (by decide) x5.1) rfl rfl rfl rfl ⟨Nat.le_of_ble_eq_true rfl, Nat.le_of_ble_eq_true rfl⟩ rfl (Nat.le_of_ble_eq_true rfl) (by decide +kernel) (fun o σ1 hPσ1 => ?_)
      obtain ⟨rfl, hWσ1⟩ := hPσ1
      refine g_blk (pc' := 38) (loc' := [some (vR (7, 0, 0)), some (vI n), some (vI w), some (vI (0 : Int32)), some (vI (0 : Int32))]) (st' := []) (σ' := σ1) fl4_ok [(33, .iconst 0), (34, .istore_n 3), (35, .iconst 0), (36, .istore 4)] (by decide +kernel) rfl rfl ?_
      obtain ⟨m, hm, rfl⟩ := isIn_ex (n := 60) (by decide) zc7
      have hoth := hw_other (h2 := 0) (by decide) hWσ1.2.2
      refine g_sub (loc' := [some (vR (7, 0, 0)), some (vI (nI m)), some (vI w), some (vI (0 : Int32)), some (vI (nI 0))]) ⟨Or.inr rfl, Or.inr rfl, Or.inr rfl, Or.inr rfl, Or.inr rfl, trivial⟩ ?_
      refine g_mono (lp_X4_fc l (σ0 := σ) (S0 := habs σ 0) (Qf := fcF m (habs σ 0) 0) w hm m 0 0 σ1 hWσ1.2.1 (hoth.2 x0) (by rw [hWσ1.1]; exact x5) (by omega) (by rw [hWσ1.1]) hWσ1.2.2 hoth.1) (fun o σ' hp => ?_)
      have e : xforecast (habs σ 0) (nI m) w = fcA (habs σ 0) (fcF m (habs σ 0) 0) w := by rw [xforecast, if_neg zc7, if_pos zc16, nI_clamp (by omega)]
      exact ⟨by rw [e]; exact hp.1, x_trial hX hp.2.1 hp.2.2⟩
    · refine g_blk (pc' := 21) (loc' := [some (vR (7, 0, 0)), some (vI n), some (vI w), none, none]) (st' := [vI (-2 : Int32)]) (σ' := σ) fl4_ok [(19, .bipush (-2))] (by decide +kernel) rfl rfl ?_
      exact g_iret (by decide +kernel) ⟨by show some _ = some (vI (xforecast _ _ _)); rw [xforecast, if_neg zc7, if_neg (not_not_intro zc16)], XW.rf hX⟩
end
section
/-! THE MODEL'S ROW OF NUMBERS: the state with that row set; what each method of the model answers and makes -/
def sa (σ : Sg) (f : Nat → Int32) : Sg := (fun p => if p = (9, 0, 0) then f else σ.1 p, σ.2)
theorem sa_at (σ : Sg) (f : Nat → Int32) : (sa σ f).1 (9, 0, 0) = f := by
  show (if ((9, 0, 0) : Lo) = (9, 0, 0) then f else σ.1 (9, 0, 0)) = f
  exact if_pos rfl
theorem sa_ne (σ : Sg) (f : Nat → Int32) {p : Lo} (h : p ≠ (9, 0, 0)) : (sa σ f).1 p = σ.1 p := by
  show (if p = (9, 0, 0) then f else σ.1 p) = σ.1 p
  exact if_neg h
theorem sa_self (σ : Sg) : sa σ (σ.1 (9, 0, 0)) = σ := by
  refine Prod.ext ?_ rfl
  funext p
  show (if p = (9, 0, 0) then σ.1 (9, 0, 0) else σ.1 p) = σ.1 p
  by_cases h : p = (9, 0, 0)
  · rw [if_pos h, h]
  · rw [if_neg h]
theorem sa_sa (σ : Sg) (f g : Nat → Int32) : sa (sa σ f) g = sa σ g := by
  refine Prod.ext ?_ rfl
  funext p
  show (if p = (9, 0, 0) then g else if p = (9, 0, 0) then f else σ.1 p) = if p = (9, 0, 0) then g else σ.1 p
  by_cases h : p = (9, 0, 0)
  · rw [if_pos h, if_pos h]
  · rw [if_neg h, if_neg h, if_neg h]
theorem sa_up (σ : Sg) (f : Nat → Int32) (k : Nat) (v : Int32) : (upd2 (sa σ f).1 (9, 0, 0) k v, (sa σ f).2) = sa σ (upd f k v) := by
  refine Prod.ext ?_ rfl
  funext p
  show (if p = (9, 0, 0) then upd ((sa σ f).1 (9, 0, 0)) k v else if p = (9, 0, 0) then f else σ.1 p) = if p = (9, 0, 0) then upd f k v else σ.1 p
  by_cases h : p = (9, 0, 0)
  · rw [if_pos h, if_pos h, sa_at]
  · rw [if_neg h, if_neg h, if_neg h]
theorem up_ne {f : Nat → Int32} {k j : Nat} {v : Int32} (h : j ≠ k) : upd f k v j = f j := if_neg h
theorem up_at {f : Nat → Int32} {k : Nat} {v : Int32} : upd f k v k = v := if_pos rfl
section SROW
variable {l : Launch} {R : Room} {own : String} {cc : ByteArray} {nL : Nat} {ret : Option FieldType} {post : Option AV → Sg → Prop} {pc : Nat} {loc : List (Option AV)} {st : List AV} {σ : Sg} {f : Nat → Int32}
theorem g_sld {i : Int32} {k : Nat} (hi : i = nI k) (hk : k < 162) (hd : decode cc pc = .ok (.iaload, 1)) (kk : G l R own cc nL ret post (pc + 1) loc (vI (f k) :: st) (sa σ f)) : G l R own cc nL ret post pc loc (vI i :: vR (9, 0, 0) :: st) (sa σ f) := by
  subst hi
  refine g_iald (n := 162) rfl (vp_in_nI hk (by decide)) hd ?_
  rw [nI_clamp (by omega), sa_at]
  exact kk
theorem g_sst {i v : Int32} {k : Nat} (hi : i = nI k) (hk : k < 162) (hd : decode cc pc = .ok (.iastore, 1)) (kk : G l R own cc nL ret post (pc + 1) loc st (sa σ (upd f k v))) : G l R own cc nL ret post pc loc (vI v :: vI i :: vR (9, 0, 0) :: st) (sa σ f) := by
  subst hi
  refine g_iast (n := 162) rfl (vp_in_nI hk (by decide)) hd ?_
  rw [nI_clamp (by omega), sa_up]
  exact kk
end SROW
theorem ix6 (r c : Nat) : (12 : Int32) + (6 : Int32) * nI r + nI c = nI (12 + 6 * r + c) := by rw [show (12 : Int32) = nI 12 from rfl, show (6 : Int32) = nI 6 from rfl, pk_mul, nI_add, nI_add]
theorem ix60 (r c : Nat) : (60 : Int32) + (5 : Int32) * nI r + nI c = nI (60 + 5 * r + c) := by rw [show (60 : Int32) = nI 60 from rfl, show (5 : Int32) = nI 5 from rfl, pk_mul, nI_add, nI_add]
theorem ix90 (r c : Nat) : (90 : Int32) + (5 : Int32) * nI r + nI c = nI (90 + 5 * r + c) := by rw [show (90 : Int32) = nI 90 from rfl, show (5 : Int32) = nI 5 from rfl, pk_mul, nI_add, nI_add]
theorem ix150 (r c : Nat) : (150 : Int32) + (2 : Int32) * nI r + nI c = nI (150 + 2 * r + c) := by rw [show (150 : Int32) = nI 150 from rfl, show (2 : Int32) = nI 2 from rfl, pk_mul, nI_add, nI_add]
theorem ix8 (c : Nat) : (8 : Int32) + nI c = nI (8 + c) := by rw [show (8 : Int32) = nI 8 from rfl, nI_add]
def mo (f : Nat → Int32) (r c : Nat) : Int32 := f (12 + 6 * r + c)
def ma (f : Nat → Int32) (a c : Nat) : Int32 := f (60 + 5 * a + c)
def mk (f : Nat → Int32) (t c : Nat) : Int32 := f (90 + 5 * t + c)
def mw (f : Nat → Int32) (s c : Nat) : Int32 := f (150 + 2 * s + c)
def so (f : Nat → Int32) (r c : Nat) (v : Int32) : Nat → Int32 := upd f (12 + 6 * r + c) v
def sA (f : Nat → Int32) (a c : Nat) (v : Int32) : Nat → Int32 := upd f (60 + 5 * a + c) v
def sk (f : Nat → Int32) (t c : Nat) (v : Int32) : Nat → Int32 := upd f (90 + 5 * t + c) v
def awayM (f : Nat → Int32) (r : Nat) : Int32 := isInS (f 0) (mo f r 4) (mo f r 5)
def dueM (f : Nat → Int32) (a : Nat) : Int32 := if ¬ remS (f 0) (ma f a 1) = remS (nI a) (ma f a 1) then 0 else 1
def deepM (f : Nat → Int32) (a : Nat) : Int32 := if ma f a 3 < f 11 then 0 else 1
def lm (f : Nat → Int32) (r : Nat) : Nat → Int32
  | 0 => mo f r 1
  | t + 1 => lm f r t + (if ¬ mk f t 1 = nI r then 0 else if ¬ mk f t 3 = 0 then 0 else mk f t 2)
def aheadM (f : Nat → Int32) (r o nt : Nat) : Int32 :=
  if lm f r nt * mo f o 0 = lm f o nt * mo f r 0 then (if mo f r 2 = mo f o 2 then (if nI o ≤ nI r then 0 else 1) else if mo f r 2 ≤ mo f o 2 then 0 else 1)
  else (if lm f o nt * mo f r 0 ≤ lm f r nt * mo f o 0 then 0 else 1)
def bestL (f : Nat → Int32) (b : Int32) (nt : Nat) : Nat → Int32
  | 0 => -6
  | n + 1 => if ¬ awayM f n = 0 then bestL f b nt n else if nI n = b then bestL f b nt n else if bestL f b nt n < 0 then nI n else if aheadM f n (bestL f b nt n).toNatClampNeg nt = 0 then bestL f b nt n else nI n
def partL (f : Nat → Int32) (t : Nat) : Nat → Int32
  | 0 => -6
  | n + 1 => if ¬ mk f n 4 = 1 then partL f t n else if ¬ mk f n 0 = mk f t 0 then partL f t n else if ¬ mk f t 4 = 1 then partL f t n else mk f n 1
-- a row of tasks moves on by one
def cpR (f : Nat → Int32) (k : Nat) : Nat → Nat → (Nat → Int32)
  | 0, _ => f
  | m + 1, c => cpR (sk f (k + 1) c (mk f k c)) k m (c + 1)
def shM (e : Int32) : Nat → (Nat → Int32) → (Nat → Int32) × Nat
  | 0, f => (f, 0)
  | k + 1, f => if e ≤ mk f k 2 then (f, k + 1) else shM e k (cpR f k 5 0)
def putT (f : Nat → Int32) (k a : Nat) (e d : Int32) : Nat → Int32 := sk (sk (sk (sk (sk f k 0 (nI a)) k 1 (-6)) k 2 e) k 3 0) k 4 d
def addM (f : Nat → Int32) (nt a : Nat) (e d : Int32) : Nat → Int32 := upd (putT (shM e nt f).1 (shM e nt f).2 a e d) 3 (nI (nt + 1))
def effM (f : Nat → Int32) (a : Nat) : Int32 := (f 10 * ma f a 0 + 1) / 2
def pl1 (f : Nat → Int32) (nt a : Nat) : (Nat → Int32) × Nat :=
  if deepM f a = 0 then (if dueM f a = 0 then (f, nt) else (addM f nt a (ma f a 0) 0, nt + 1)) else (addM (addM f nt a (effM f a) 1) (nt + 1) a (effM f a) 1, nt + 2)
def plA : Nat → Nat → (Nat → Int32) → Nat → (Nat → Int32) × Nat
  | 0, _, f, nt => (f, nt)
  | k + 1, a, f, nt => plA k (a + 1) (pl1 f nt a).1 (pl1 f nt a).2
def gv1 (f : Nat → Int32) (nr nt t : Nat) : Nat → Int32 :=
  sk f t 1 (if ¬ bestL f (partL f t t) nt nr = -6 then bestL f (partL f t t) nt nr else bestL f (-6) nt nr)
def gvM (nr nt : Nat) : Nat → Nat → (Nat → Int32) → (Nat → Int32)
  | 0, _, f => f
  | k + 1, t, f => gvM nr nt k (t + 1) (gv1 f nr nt t)
def planM (f : Nat → Int32) (nr na : Nat) : (Nat → Int32) × Nat :=
  let f1 := upd (upd f 4 1) 3 0
  if bestL f1 (-6) 0 nr = -6 then (f1, 0) else
  let p := plA na 0 f1 0
  (gvM nr p.2 p.2 0 p.1, p.2)
def cleanM (f : Nat → Int32) (a : Nat) : Nat → Int32 := sA (sA f a 3 0) a 4 (ma (sA f a 3 0) a 4 + 1)
def rmF (m : Nat) : Nat → (Nat → Int32) → (Nat → Int32)
  | 0, f => f
  | k + 1, f => rmF m k (upd f (150 + (m - (k + 1))) (f (150 + (m - (k + 1)) + 2)))
def rmM (f : Nat → Int32) (ns s : Nat) : Nat → Int32 := rmF (2 * (ns - 1)) (2 * (ns - 1) - 2 * s) (upd f 7 (nI (ns - 1)))
def drM (t : Int32) : Nat → (Nat → Int32) → Nat → (Nat → Int32) × Nat
  | 0, f, ns => (f, ns)
  | k + 1, f, ns => if mw f k 0 = t then drM t k (rmM f ns k) (ns - 1) else if ¬ mw f k 1 = t then drM t k f ns else drM t k (rmM f ns k) (ns - 1)
def lastL (f : Nat → Int32) (t : Nat) : Nat → Int32
  | 0 => 1
  | n + 1 => if lastL f t n = 0 then 0 else if nI n = nI t then 1 else if ¬ mk f n 0 = mk f t 0 then 1 else if ¬ mk f n 3 = 1 then 0 else 1
def finM (f : Nat → Int32) (nt ns t r a : Nat) : (Nat → Int32) × Nat :=
  let f1 := sk f t 3 1
  let f2 := so f1 r 1 (mo f1 r 1 + mk f1 t 2)
  let f3 := if lastL f2 t nt = 0 then f2 else cleanM f2 a
  let p := drM (nI t) ns f3 ns
  (upd p.1 5 (p.1 5 + 1), p.2)
def ext (f : Nat → Int32) (r a : Nat) : Nat → Int32 :=
  let p := if ma f a 0 ≤ mo f r 2 then ma f a 0 else mo f r 2
  let f1 := cleanM f a
  let f2 := so f1 r 2 (mo f1 r 2 - p)
  so f2 r 1 (mo f2 r 1 + p)
def skM (f : Nat → Int32) (t r : Nat) : Nat → Int32 :=
  let f1 := so f r 2 (mo f r 2 + mk f t 2)
  so f1 r 3 (mo f1 r 3 + f1 8)
def skF (who : Nat → Nat) : Nat → Nat → (Nat → Int32) → Int32 → (Nat → Int32) × Int32
  | 0, _, f, n => (f, n)
  | k + 1, t, f, n => if ¬ mk f t 3 = 0 then skF who k (t + 1) f n else skF who k (t + 1) (skM f t (who t)) (n + 1)
def dcF : Nat → Nat → (Nat → Int32) → (Nat → Int32)
  | 0, _, f => f
  | k + 1, r, f => dcF k (r + 1) (so f r 3 (mo f r 3 * (100 - f 9) / 100))
def gwF : Nat → Nat → (Nat → Int32) → (Nat → Int32)
  | 0, _, f => f
  | k + 1, a, f => gwF k (a + 1) (sA f a 3 (if ma f a 3 + ma f a 2 ≤ 1000 then ma f a 3 + ma f a 2 else 1000))
def endM (f : Nat → Int32) (who : Nat → Nat) (nr na nt : Nat) : Nat → Int32 :=
  let p := skF who nt 0 f 0
  let f1 := upd p.1 6 (p.1 6 + p.2)
  let f2 := upd (upd f1 3 0) 7 0
  let f3 := dcF nr 0 f2
  let f4 := gwF na 0 f3
  upd (upd f4 0 (f4 0 + 1)) 4 0
def prL (f : Nat → Int32) (a b : Int32) : Nat → Int32
  | 0 => 0
  | n + 1 => if ¬ prL f a b n = 0 then 1 else if ¬ mw f n 0 = a then 0 else if ¬ mw f n 1 = b then 0 else 1
def exM (f : Nat → Int32) (a b : Nat) : Nat → Int32 := sk (sk f a 1 (mk f b 1)) b 1 (mk f a 1)
def opN (f : Nat → Int32) (r : Nat) : Nat → Int32
  | 0 => 0
  | t + 1 => if ¬ mk f t 1 = nI r then opN f r t else if ¬ mk f t 3 = 0 then opN f r t else opN f r t + 1
def opF (f : Nat → Int32) (r : Nat) : Nat → Nat → Int32
  | 0, _ => -6
  | k + 1, t => if ¬ mk f t 1 = nI r then opF f r k (t + 1) else if ¬ mk f t 3 = 0 then opF f r k (t + 1) else nI t
def rtM (f : Nat → Int32) (pl : Int32) (nt r : Nat) : Int32 := 1000 * (if pl = 0 then mo f r 1 else lm f r nt) / mo f r 0
def spM (f : Nat → Int32) (pl : Int32) (nt : Nat) : Nat → Int32 × Int32
  | 0 => (0, 0)
  | r + 1 => (if nI r = 0 then rtM f pl nt r else if (spM f pl nt r).1 ≤ rtM f pl nt r then (spM f pl nt r).1 else rtM f pl nt r, if nI r = 0 then rtM f pl nt r else if rtM f pl nt r ≤ (spM f pl nt r).2 then (spM f pl nt r).2 else rtM f pl nt r)
def sprM (f : Nat → Int32) (pl : Int32) (nt nr : Nat) : Int32 := (spM f pl nt nr).2 - (spM f pl nt nr).1
def opT (f : Nat → Int32) : Nat → Int32
  | 0 => 0
  | t + 1 => opT f t + (if ¬ mk f t 3 = 0 then 0 else 1)
def foL (f : Nat → Int32) : Nat → Int32
  | 0 => 0
  | a + 1 => if ma f a 3 ≤ foL f a then foL f a else ma f a 3
end
section
/-! THE MODEL: its readers (laid by wip/whole/mk19.py) -/
set_option maxHeartbeats 2000000 in
theorem c_X5_in (l : Launch) {σ : Sg} {f : Nat → Int32}  (x a b : Int32) : Con l 0 yX5_in cX5_in 3 (some .boolean) [vI x, vI a, vI b] (sa σ f) (pureP (isInS x a b) (sa σ f)) := by
  refine con_of pn_X5_in (Nat.le_of_ble_eq_true rfl) (fun hPK hok => ?_)
  show G l (Rm 0) RX5 cX5_in 3 (some .boolean) _ 0 [some (vI x), some (vI a), some (vI b)] [] (sa σ f)
  refine g_blk (pc' := 2) (loc' := [some (vI x), some (vI a), some (vI b)]) (st' := [vI a, vI x]) (σ' := sa σ f) fl5_ok [(0, .iload_n 0), (1, .iload_n 1)] (by decide +kernel) rfl rfl ?_
  refine g_icmp_lt (off := 12) (tgt := 14) (by decide +kernel) (by decide) (fun zc2 => ?_) (fun zc2 => ?_)
  · refine g_blk (pc' := 15) (loc' := [some (vI x), some (vI a), some (vI b)]) (st' := [vI (0 : Int32)]) (σ' := sa σ f) fl5_ok [(14, .iconst 0)] (by decide +kernel) rfl rfl ?_
    exact g_zret (by decide +kernel) (Or.inl rfl) (by rw [isInS, if_pos zc2]; exact ⟨rfl, rfl⟩)
  · refine g_blk (pc' := 7) (loc' := [some (vI x), some (vI a), some (vI b)]) (st' := [vI b, vI x]) (σ' := sa σ f) fl5_ok [(5, .iload_n 0), (6, .iload_n 2)] (by decide +kernel) rfl rfl ?_
    refine g_icmp_gt (off := 7) (tgt := 14) (by decide +kernel) (by decide) (fun zc7 => ?_) (fun zc7 => ?_)
    · refine g_blk (pc' := 15) (loc' := [some (vI x), some (vI a), some (vI b)]) (st' := [vI (0 : Int32)]) (σ' := sa σ f) fl5_ok [(14, .iconst 0)] (by decide +kernel) rfl rfl ?_
      exact g_zret (by decide +kernel) (Or.inl rfl) (by rw [isInS, if_neg zc2, if_pos zc7]; exact ⟨rfl, rfl⟩)
    · refine g_blk (pc' := 15) (loc' := [some (vI x), some (vI a), some (vI b)]) (st' := [vI (1 : Int32)]) (σ' := sa σ f) fl5_ok [(10, .iconst 1), (11, .goto 4)] (by decide +kernel) rfl rfl ?_
      exact g_zret (by decide +kernel) (Or.inr rfl) (by rw [isInS, if_neg zc2, if_neg zc7]; exact ⟨rfl, rfl⟩)
set_option maxHeartbeats 2000000 in
theorem c_X5_setting (l : Launch) {σ : Sg} {f : Nat → Int32} {x : Int32} {c : Nat} (hx : x = nI c) (hc : c < 4) : Con l 0 yX5_setting cX5_setting 2 (some .int) [vR (8, 0, 0), vI x] (sa σ f) (pureP (f (8 + c)) (sa σ f)) := by
  subst hx
  refine con_of pn_X5_setting (Nat.le_of_ble_eq_true rfl) (fun hPK hok => ?_)
  show G l (Rm 0) RX5 cX5_setting 2 (some .int) _ 0 [some (vR (8, 0, 0)), some (vI (nI c))] [] (sa σ f)
  refine g_blk (pc' := 8) (loc' := [some (vR (8, 0, 0)), some (vI (nI c))]) (st' := [vI ((8 : Int32) + (nI c)), vR (9, 0, 0)]) (σ' := sa σ f) fl5_ok [(0, .aload_n 0), (1, .getfield 7), (4, .bipush 8), (6, .iload_n 1), (7, .iadd)] (by decide +kernel) rfl rfl ?_
  refine g_sld (k := (8 + c)) (ix8 c) (by omega) (by decide +kernel) ?_
  exact g_iret (by decide +kernel) (by exact ⟨rfl, rfl⟩)
set_option maxHeartbeats 2000000 in
theorem c_X5_of (l : Launch) {σ : Sg} {f : Nat → Int32} {x y : Int32} {r c : Nat} (hx : x = nI r) (hy : y = nI c) (hr : r < 8) (hc : c < 6) : Con l 0 yX5_of cX5_of 3 (some .int) [vR (8, 0, 0), vI x, vI y] (sa σ f) (pureP (mo f r c) (sa σ f)) := by
  subst hx hy
  refine con_of pn_X5_of (Nat.le_of_ble_eq_true rfl) (fun hPK hok => ?_)
  show G l (Rm 0) RX5 cX5_of 3 (some .int) _ 0 [some (vR (8, 0, 0)), some (vI (nI r)), some (vI (nI c))] [] (sa σ f)
  refine g_blk (pc' := 13) (loc' := [some (vR (8, 0, 0)), some (vI (nI r)), some (vI (nI c))]) (st' := [vI (((12 : Int32) + ((6 : Int32) * (nI r))) + (nI c)), vR (9, 0, 0)]) (σ' := sa σ f) fl5_ok [(0, .aload_n 0), (1, .getfield 7), (4, .bipush 12), (6, .bipush 6), (8, .iload_n 1), (9, .imul), (10, .iadd), (11, .iload_n 2), (12, .iadd)] (by decide +kernel) rfl rfl ?_
  refine g_sld (k := (12 + 6 * r + c)) (ix6 r c) (by omega) (by decide +kernel) ?_
  exact g_iret (by decide +kernel) (by exact ⟨rfl, rfl⟩)
set_option maxHeartbeats 2000000 in
theorem c_X5_lay (l : Launch) {σ : Sg} {f : Nat → Int32} {x y : Int32} {r c : Nat} (v : Int32) (hx : x = nI r) (hy : y = nI c) (hr : r < 8) (hc : c < 6) : Con l 0 yX5_lay cX5_lay 4 none [vR (8, 0, 0), vI x, vI y, vI v] (sa σ f) (fun o σ' => o = none ∧ σ' = sa σ (so f r c v)) := by
  subst hx hy
  refine con_of pn_X5_lay (Nat.le_of_ble_eq_true rfl) (fun hPK hok => ?_)
  show G l (Rm 0) RX5 cX5_lay 4 none _ 0 [some (vR (8, 0, 0)), some (vI (nI r)), some (vI (nI c)), some (vI v)] [] (sa σ f)
  refine g_blk (pc' := 14) (loc' := [some (vR (8, 0, 0)), some (vI (nI r)), some (vI (nI c)), some (vI v)]) (st' := [vI v, vI (((12 : Int32) + ((6 : Int32) * (nI r))) + (nI c)), vR (9, 0, 0)]) (σ' := sa σ f) fl5_ok [(0, .aload_n 0), (1, .getfield 7), (4, .bipush 12), (6, .bipush 6), (8, .iload_n 1), (9, .imul), (10, .iadd), (11, .iload_n 2), (12, .iadd), (13, .iload_n 3)] (by decide +kernel) rfl rfl ?_
  refine g_sst (k := (12 + 6 * r + c)) (ix6 r c) (by omega) (by decide +kernel) ?_
  exact g_vret (by decide +kernel) (by exact ⟨rfl, rfl⟩)
set_option maxHeartbeats 2000000 in
theorem c_X5_ofArea (l : Launch) {σ : Sg} {f : Nat → Int32} {x y : Int32} {r c : Nat} (hx : x = nI r) (hy : y = nI c) (hr : r < 6) (hc : c < 5) : Con l 0 yX5_ofArea cX5_ofArea 3 (some .int) [vR (8, 0, 0), vI x, vI y] (sa σ f) (pureP (ma f r c) (sa σ f)) := by
  subst hx hy
  refine con_of pn_X5_ofArea (Nat.le_of_ble_eq_true rfl) (fun hPK hok => ?_)
  show G l (Rm 0) RX5 cX5_ofArea 3 (some .int) _ 0 [some (vR (8, 0, 0)), some (vI (nI r)), some (vI (nI c))] [] (sa σ f)
  refine g_blk (pc' := 12) (loc' := [some (vR (8, 0, 0)), some (vI (nI r)), some (vI (nI c))]) (st' := [vI (((60 : Int32) + ((5 : Int32) * (nI r))) + (nI c)), vR (9, 0, 0)]) (σ' := sa σ f) fl5_ok [(0, .aload_n 0), (1, .getfield 7), (4, .bipush 60), (6, .iconst 5), (7, .iload_n 1), (8, .imul), (9, .iadd), (10, .iload_n 2), (11, .iadd)] (by decide +kernel) rfl rfl ?_
  refine g_sld (k := (60 + 5 * r + c)) (ix60 r c) (by omega) (by decide +kernel) ?_
  exact g_iret (by decide +kernel) (by exact ⟨rfl, rfl⟩)
set_option maxHeartbeats 2000000 in
theorem c_X5_layArea (l : Launch) {σ : Sg} {f : Nat → Int32} {x y : Int32} {r c : Nat} (v : Int32) (hx : x = nI r) (hy : y = nI c) (hr : r < 6) (hc : c < 5) : Con l 0 yX5_layArea cX5_layArea 4 none [vR (8, 0, 0), vI x, vI y, vI v] (sa σ f) (fun o σ' => o = none ∧ σ' = sa σ (sA f r c v)) := by
  subst hx hy
  refine con_of pn_X5_layArea (Nat.le_of_ble_eq_true rfl) (fun hPK hok => ?_)
  show G l (Rm 0) RX5 cX5_layArea 4 none _ 0 [some (vR (8, 0, 0)), some (vI (nI r)), some (vI (nI c)), some (vI v)] [] (sa σ f)
  refine g_blk (pc' := 13) (loc' := [some (vR (8, 0, 0)), some (vI (nI r)), some (vI (nI c)), some (vI v)]) (st' := [vI v, vI (((60 : Int32) + ((5 : Int32) * (nI r))) + (nI c)), vR (9, 0, 0)]) (σ' := sa σ f) fl5_ok [(0, .aload_n 0), (1, .getfield 7), (4, .bipush 60), (6, .iconst 5), (7, .iload_n 1), (8, .imul), (9, .iadd), (10, .iload_n 2), (11, .iadd), (12, .iload_n 3)] (by decide +kernel) rfl rfl ?_
  refine g_sst (k := (60 + 5 * r + c)) (ix60 r c) (by omega) (by decide +kernel) ?_
  exact g_vret (by decide +kernel) (by exact ⟨rfl, rfl⟩)
set_option maxHeartbeats 2000000 in
theorem c_X5_ofTask (l : Launch) {σ : Sg} {f : Nat → Int32} {x y : Int32} {r c : Nat} (hx : x = nI r) (hy : y = nI c) (hr : r < 12) (hc : c < 5) : Con l 0 yX5_ofTask cX5_ofTask 3 (some .int) [vR (8, 0, 0), vI x, vI y] (sa σ f) (pureP (mk f r c) (sa σ f)) := by
  subst hx hy
  refine con_of pn_X5_ofTask (Nat.le_of_ble_eq_true rfl) (fun hPK hok => ?_)
  show G l (Rm 0) RX5 cX5_ofTask 3 (some .int) _ 0 [some (vR (8, 0, 0)), some (vI (nI r)), some (vI (nI c))] [] (sa σ f)
  refine g_blk (pc' := 12) (loc' := [some (vR (8, 0, 0)), some (vI (nI r)), some (vI (nI c))]) (st' := [vI (((90 : Int32) + ((5 : Int32) * (nI r))) + (nI c)), vR (9, 0, 0)]) (σ' := sa σ f) fl5_ok [(0, .aload_n 0), (1, .getfield 7), (4, .bipush 90), (6, .iconst 5), (7, .iload_n 1), (8, .imul), (9, .iadd), (10, .iload_n 2), (11, .iadd)] (by decide +kernel) rfl rfl ?_
  refine g_sld (k := (90 + 5 * r + c)) (ix90 r c) (by omega) (by decide +kernel) ?_
  exact g_iret (by decide +kernel) (by exact ⟨rfl, rfl⟩)
set_option maxHeartbeats 2000000 in
theorem c_X5_layTask (l : Launch) {σ : Sg} {f : Nat → Int32} {x y : Int32} {r c : Nat} (v : Int32) (hx : x = nI r) (hy : y = nI c) (hr : r < 12) (hc : c < 5) : Con l 0 yX5_layTask cX5_layTask 4 none [vR (8, 0, 0), vI x, vI y, vI v] (sa σ f) (fun o σ' => o = none ∧ σ' = sa σ (sk f r c v)) := by
  subst hx hy
  refine con_of pn_X5_layTask (Nat.le_of_ble_eq_true rfl) (fun hPK hok => ?_)
  show G l (Rm 0) RX5 cX5_layTask 4 none _ 0 [some (vR (8, 0, 0)), some (vI (nI r)), some (vI (nI c)), some (vI v)] [] (sa σ f)
  refine g_blk (pc' := 13) (loc' := [some (vR (8, 0, 0)), some (vI (nI r)), some (vI (nI c)), some (vI v)]) (st' := [vI v, vI (((90 : Int32) + ((5 : Int32) * (nI r))) + (nI c)), vR (9, 0, 0)]) (σ' := sa σ f) fl5_ok [(0, .aload_n 0), (1, .getfield 7), (4, .bipush 90), (6, .iconst 5), (7, .iload_n 1), (8, .imul), (9, .iadd), (10, .iload_n 2), (11, .iadd), (12, .iload_n 3)] (by decide +kernel) rfl rfl ?_
  refine g_sst (k := (90 + 5 * r + c)) (ix90 r c) (by omega) (by decide +kernel) ?_
  exact g_vret (by decide +kernel) (by exact ⟨rfl, rfl⟩)
set_option maxHeartbeats 2000000 in
theorem c_X5_ofSwap (l : Launch) {σ : Sg} {f : Nat → Int32} {x y : Int32} {r c : Nat} (hx : x = nI r) (hy : y = nI c) (hr : r < 6) (hc : c < 2) : Con l 0 yX5_ofSwap cX5_ofSwap 3 (some .int) [vR (8, 0, 0), vI x, vI y] (sa σ f) (pureP (mw f r c) (sa σ f)) := by
  subst hx hy
  refine con_of pn_X5_ofSwap (Nat.le_of_ble_eq_true rfl) (fun hPK hok => ?_)
  show G l (Rm 0) RX5 cX5_ofSwap 3 (some .int) _ 0 [some (vR (8, 0, 0)), some (vI (nI r)), some (vI (nI c))] [] (sa σ f)
  refine g_blk (pc' := 13) (loc' := [some (vR (8, 0, 0)), some (vI (nI r)), some (vI (nI c))]) (st' := [vI (((150 : Int32) + ((2 : Int32) * (nI r))) + (nI c)), vR (9, 0, 0)]) (σ' := sa σ f) fl5_ok [(0, .aload_n 0), (1, .getfield 7), (4, .sipush 150), (7, .iconst 2), (8, .iload_n 1), (9, .imul), (10, .iadd), (11, .iload_n 2), (12, .iadd)] (by decide +kernel) rfl rfl ?_
  refine g_sld (k := (150 + 2 * r + c)) (ix150 r c) (by omega) (by decide +kernel) ?_
  exact g_iret (by decide +kernel) (by exact ⟨rfl, rfl⟩)
set_option maxHeartbeats 2000000 in
theorem c_X5_isResident (l : Launch) {σ : Sg} {f : Nat → Int32} {n : Nat} (x : Int32) (hn : f 1 = nI n) (hn2 : n < 2 ^ 31) : Con l 0 yX5_isResident cX5_isResident 2 (some .boolean) [vR (8, 0, 0), vI x] (sa σ f) (pureP (hasT x n) (sa σ f)) := by
  refine con_of pn_X5_isResident (Nat.le_of_ble_eq_true rfl) (fun hPK hok => ?_)
  show G l (Rm 0) RX5 cX5_isResident 2 (some .boolean) _ 0 [some (vR (8, 0, 0)), some (vI x)] [] (sa σ f)
  refine g_blk (pc' := 1) (loc' := [some (vR (8, 0, 0)), some (vI x)]) (st' := [vI x]) (σ' := sa σ f) fl5_ok [(0, .iload_n 1)] (by decide +kernel) rfl rfl ?_
  refine g_if_lt (off := 17) (tgt := 18) (by decide +kernel) (by decide) (fun zc1 => ?_) (fun zc1 => ?_)
  · refine g_blk (pc' := 19) (loc' := [some (vR (8, 0, 0)), some (vI x)]) (st' := [vI (0 : Int32)]) (σ' := sa σ f) fl5_ok [(18, .iconst 0)] (by decide +kernel) rfl rfl ?_
    exact g_zret (by decide +kernel) (Or.inl rfl) (by rw [hasT_out (out_lo zc1)]; exact ⟨rfl, rfl⟩)
  · refine g_blk (pc' := 11) (loc' := [some (vR (8, 0, 0)), some (vI x)]) (st' := [vI (f 1), vI x]) (σ' := sa σ f) fl5_ok [(4, .iload_n 1), (5, .aload_n 0), (6, .getfield 7), (9, .iconst 1), (10, .iaload)] (by decide +kernel) rfl rfl ?_
    refine g_icmp_ge (off := 7) (tgt := 18) (by decide +kernel) (by decide) (fun zc11 => ?_) (fun zc11 => ?_)
    · rw [hn] at zc11
      refine g_blk (pc' := 19) (loc' := [some (vR (8, 0, 0)), some (vI x)]) (st' := [vI (0 : Int32)]) (σ' := sa σ f) fl5_ok [(18, .iconst 0)] (by decide +kernel) rfl rfl ?_
      exact g_zret (by decide +kernel) (Or.inl rfl) (by rw [hasT_out (out_hi hn2 zc11)]; exact ⟨rfl, rfl⟩)
    · rw [hn] at zc11
      refine g_blk (pc' := 19) (loc' := [some (vR (8, 0, 0)), some (vI x)]) (st' := [vI (1 : Int32)]) (σ' := sa σ f) fl5_ok [(14, .iconst 1), (15, .goto 4)] (by decide +kernel) rfl rfl ?_
      obtain ⟨r, hr, rfl⟩ := in_of hn2 zc1 zc11
      exact g_zret (by decide +kernel) (Or.inr rfl) (by rw [hasT_in (vp_in_nI hr (by omega))]; exact ⟨rfl, rfl⟩)
set_option maxHeartbeats 2000000 in
theorem c_X5_isArea (l : Launch) {σ : Sg} {f : Nat → Int32} {n : Nat} (x : Int32) (hn : f 2 = nI n) (hn2 : n < 2 ^ 31) : Con l 0 yX5_isArea cX5_isArea 2 (some .boolean) [vR (8, 0, 0), vI x] (sa σ f) (pureP (hasT x n) (sa σ f)) := by
  refine con_of pn_X5_isArea (Nat.le_of_ble_eq_true rfl) (fun hPK hok => ?_)
  show G l (Rm 0) RX5 cX5_isArea 2 (some .boolean) _ 0 [some (vR (8, 0, 0)), some (vI x)] [] (sa σ f)
  refine g_blk (pc' := 1) (loc' := [some (vR (8, 0, 0)), some (vI x)]) (st' := [vI x]) (σ' := sa σ f) fl5_ok [(0, .iload_n 1)] (by decide +kernel) rfl rfl ?_
  refine g_if_lt (off := 17) (tgt := 18) (by decide +kernel) (by decide) (fun zc1 => ?_) (fun zc1 => ?_)
  · refine g_blk (pc' := 19) (loc' := [some (vR (8, 0, 0)), some (vI x)]) (st' := [vI (0 : Int32)]) (σ' := sa σ f) fl5_ok [(18, .iconst 0)] (by decide +kernel) rfl rfl ?_
    exact g_zret (by decide +kernel) (Or.inl rfl) (by rw [hasT_out (out_lo zc1)]; exact ⟨rfl, rfl⟩)
  · refine g_blk (pc' := 11) (loc' := [some (vR (8, 0, 0)), some (vI x)]) (st' := [vI (f 2), vI x]) (σ' := sa σ f) fl5_ok [(4, .iload_n 1), (5, .aload_n 0), (6, .getfield 7), (9, .iconst 2), (10, .iaload)] (by decide +kernel) rfl rfl ?_
    refine g_icmp_ge (off := 7) (tgt := 18) (by decide +kernel) (by decide) (fun zc11 => ?_) (fun zc11 => ?_)
    · rw [hn] at zc11
      refine g_blk (pc' := 19) (loc' := [some (vR (8, 0, 0)), some (vI x)]) (st' := [vI (0 : Int32)]) (σ' := sa σ f) fl5_ok [(18, .iconst 0)] (by decide +kernel) rfl rfl ?_
      exact g_zret (by decide +kernel) (Or.inl rfl) (by rw [hasT_out (out_hi hn2 zc11)]; exact ⟨rfl, rfl⟩)
    · rw [hn] at zc11
      refine g_blk (pc' := 19) (loc' := [some (vR (8, 0, 0)), some (vI x)]) (st' := [vI (1 : Int32)]) (σ' := sa σ f) fl5_ok [(14, .iconst 1), (15, .goto 4)] (by decide +kernel) rfl rfl ?_
      obtain ⟨r, hr, rfl⟩ := in_of hn2 zc1 zc11
      exact g_zret (by decide +kernel) (Or.inr rfl) (by rw [hasT_in (vp_in_nI hr (by omega))]; exact ⟨rfl, rfl⟩)
set_option maxHeartbeats 2000000 in
theorem c_X5_isTask (l : Launch) {σ : Sg} {f : Nat → Int32} {n : Nat} (x : Int32) (hn : f 3 = nI n) (hn2 : n < 2 ^ 31) : Con l 0 yX5_isTask cX5_isTask 2 (some .boolean) [vR (8, 0, 0), vI x] (sa σ f) (pureP (hasT x n) (sa σ f)) := by
  refine con_of pn_X5_isTask (Nat.le_of_ble_eq_true rfl) (fun hPK hok => ?_)
  show G l (Rm 0) RX5 cX5_isTask 2 (some .boolean) _ 0 [some (vR (8, 0, 0)), some (vI x)] [] (sa σ f)
  refine g_blk (pc' := 1) (loc' := [some (vR (8, 0, 0)), some (vI x)]) (st' := [vI x]) (σ' := sa σ f) fl5_ok [(0, .iload_n 1)] (by decide +kernel) rfl rfl ?_
  refine g_if_lt (off := 17) (tgt := 18) (by decide +kernel) (by decide) (fun zc1 => ?_) (fun zc1 => ?_)
  · refine g_blk (pc' := 19) (loc' := [some (vR (8, 0, 0)), some (vI x)]) (st' := [vI (0 : Int32)]) (σ' := sa σ f) fl5_ok [(18, .iconst 0)] (by decide +kernel) rfl rfl ?_
    exact g_zret (by decide +kernel) (Or.inl rfl) (by rw [hasT_out (out_lo zc1)]; exact ⟨rfl, rfl⟩)
  · refine g_blk (pc' := 11) (loc' := [some (vR (8, 0, 0)), some (vI x)]) (st' := [vI (f 3), vI x]) (σ' := sa σ f) fl5_ok [(4, .iload_n 1), (5, .aload_n 0), (6, .getfield 7), (9, .iconst 3), (10, .iaload)] (by decide +kernel) rfl rfl ?_
    refine g_icmp_ge (off := 7) (tgt := 18) (by decide +kernel) (by decide) (fun zc11 => ?_) (fun zc11 => ?_)
    · rw [hn] at zc11
      refine g_blk (pc' := 19) (loc' := [some (vR (8, 0, 0)), some (vI x)]) (st' := [vI (0 : Int32)]) (σ' := sa σ f) fl5_ok [(18, .iconst 0)] (by decide +kernel) rfl rfl ?_
      exact g_zret (by decide +kernel) (Or.inl rfl) (by rw [hasT_out (out_hi hn2 zc11)]; exact ⟨rfl, rfl⟩)
    · rw [hn] at zc11
      refine g_blk (pc' := 19) (loc' := [some (vR (8, 0, 0)), some (vI x)]) (st' := [vI (1 : Int32)]) (σ' := sa σ f) fl5_ok [(14, .iconst 1), (15, .goto 4)] (by decide +kernel) rfl rfl ?_
      obtain ⟨r, hr, rfl⟩ := in_of hn2 zc1 zc11
      exact g_zret (by decide +kernel) (Or.inr rfl) (by rw [hasT_in (vp_in_nI hr (by omega))]; exact ⟨rfl, rfl⟩)
set_option maxHeartbeats 2000000 in
theorem c_X5_isAway (l : Launch) {σ : Sg} {f : Nat → Int32} {x : Int32} {r : Nat} (hx : x = nI r) (hr : r < 8) : Con l 1 yX5_isAway cX5_isAway 2 (some .boolean) [vR (8, 0, 0), vI x] (sa σ f) (pureP (awayM f r) (sa σ f)) := by
  subst hx
  refine con_of pn_X5_isAway (Nat.le_of_ble_eq_true rfl) (fun hPK hok => ?_)
  show G l (Rm 1) RX5 cX5_isAway 2 (some .boolean) _ 0 [some (vR (8, 0, 0)), some (vI (nI r))] [] (sa σ f)
  refine g_blk (pc' := 9) (loc' := [some (vR (8, 0, 0)), some (vI (nI r))]) (st' := [vI (4 : Int32), vI (nI r), vR (8, 0, 0), vI (f 0)]) (σ' := sa σ f) fl5_ok [(0, .aload_n 0), (1, .getfield 7), (4, .iconst 0), (5, .iaload), (6, .aload_n 0), (7, .iload_n 1), (8, .iconst 4)] (by decide +kernel) rfl rfl ?_
  refine g_callVp (8, 0, 0) [vI (nI r), vI (4 : Int32)] [vI (f 0)] vl_RX5_44 mi_X5_of (c_X5_of l (r := r) (c := 4) rfl rfl (by omega) (by omega)) rfl rfl rfl rfl ⟨Nat.le_of_ble_eq_true rfl, Nat.le_of_ble_eq_true rfl⟩ rfl (Nat.le_of_ble_eq_true rfl) (by decide +kernel) ?_
  refine g_blk (pc' := 15) (loc' := [some (vR (8, 0, 0)), some (vI (nI r))]) (st' := [vI (5 : Int32), vI (nI r), vR (8, 0, 0), vI (mo f r 4), vI (f 0)]) (σ' := sa σ f) fl5_ok [(12, .aload_n 0), (13, .iload_n 1), (14, .iconst 5)] (by decide +kernel) rfl rfl ?_
  refine g_callVp (8, 0, 0) [vI (nI r), vI (5 : Int32)] [vI (mo f r 4), vI (f 0)] vl_RX5_44 mi_X5_of (c_X5_of l (r := r) (c := 5) rfl rfl (by omega) (by omega)) rfl rfl rfl rfl ⟨Nat.le_of_ble_eq_true rfl, Nat.le_of_ble_eq_true rfl⟩ rfl (Nat.le_of_ble_eq_true rfl) (by decide +kernel) ?_
  refine g_callSp [vI (f 0), vI (mo f r 4), vI (mo f r 5)] [] sl_RX5_29 mi_X5_in (c_X5_in l (f 0) (mo f r 4) (mo f r 5)) rfl ⟨Nat.le_of_ble_eq_true rfl, Nat.le_of_ble_eq_true rfl⟩ rfl (Nat.le_of_ble_eq_true rfl) (by decide +kernel) ?_
  exact g_zret (by decide +kernel) (isInS_bit _ _ _) (by exact ⟨rfl, rfl⟩)
set_option maxHeartbeats 2000000 in
theorem c_X5_isDue (l : Launch) {σ : Sg} {f : Nat → Int32} {x : Int32} {a : Nat} (hx : x = nI a) (ha : a < 6) (hp : ¬ ma f a 1 = 0) : Con l 1 yX5_isDue cX5_isDue 2 (some .boolean) [vR (8, 0, 0), vI x] (sa σ f) (pureP (dueM f a) (sa σ f)) := by
  subst hx
  refine con_of pn_X5_isDue (Nat.le_of_ble_eq_true rfl) (fun hPK hok => ?_)
  show G l (Rm 1) RX5 cX5_isDue 2 (some .boolean) _ 0 [some (vR (8, 0, 0)), some (vI (nI a))] [] (sa σ f)
  refine g_blk (pc' := 9) (loc' := [some (vR (8, 0, 0)), some (vI (nI a))]) (st' := [vI (1 : Int32), vI (nI a), vR (8, 0, 0), vI (f 0)]) (σ' := sa σ f) fl5_ok [(0, .aload_n 0), (1, .getfield 7), (4, .iconst 0), (5, .iaload), (6, .aload_n 0), (7, .iload_n 1), (8, .iconst 1)] (by decide +kernel) rfl rfl ?_
  refine g_callVp (8, 0, 0) [vI (nI a), vI (1 : Int32)] [vI (f 0)] vl_RX5_62 mi_X5_ofArea (c_X5_ofArea l (r := a) (c := 1) rfl rfl (by omega) (by omega)) rfl rfl rfl rfl ⟨Nat.le_of_ble_eq_true rfl, Nat.le_of_ble_eq_true rfl⟩ rfl (Nat.le_of_ble_eq_true rfl) (by decide +kernel) ?_
  refine g_remS (hy := hp) (hd := by decide +kernel) (k := ?_)
  refine g_blk (pc' := 17) (loc' := [some (vR (8, 0, 0)), some (vI (nI a))]) (st' := [vI (1 : Int32), vI (nI a), vR (8, 0, 0), vI (nI a), vI (remS (f 0) (ma f a 1))]) (σ' := sa σ f) fl5_ok [(13, .iload_n 1), (14, .aload_n 0), (15, .iload_n 1), (16, .iconst 1)] (by decide +kernel) rfl rfl ?_
  refine g_callVp (8, 0, 0) [vI (nI a), vI (1 : Int32)] [vI (nI a), vI (remS (f 0) (ma f a 1))] vl_RX5_62 mi_X5_ofArea (c_X5_ofArea l (r := a) (c := 1) rfl rfl (by omega) (by omega)) rfl rfl rfl rfl ⟨Nat.le_of_ble_eq_true rfl, Nat.le_of_ble_eq_true rfl⟩ rfl (Nat.le_of_ble_eq_true rfl) (by decide +kernel) ?_
  refine g_remS (hy := hp) (hd := by decide +kernel) (k := ?_)
  refine g_icmp_ne (off := 7) (tgt := 28) (by decide +kernel) (by decide) (fun zc21 => ?_) (fun zc21 => ?_)
  · refine g_blk (pc' := 29) (loc' := [some (vR (8, 0, 0)), some (vI (nI a))]) (st' := [vI (0 : Int32)]) (σ' := sa σ f) fl5_ok [(28, .iconst 0)] (by decide +kernel) rfl rfl ?_
    exact g_zret (by decide +kernel) (Or.inl rfl) (by rw [dueM, if_pos zc21]; exact ⟨rfl, rfl⟩)
  · refine g_blk (pc' := 29) (loc' := [some (vR (8, 0, 0)), some (vI (nI a))]) (st' := [vI (1 : Int32)]) (σ' := sa σ f) fl5_ok [(24, .iconst 1), (25, .goto 4)] (by decide +kernel) rfl rfl ?_
    exact g_zret (by decide +kernel) (Or.inr rfl) (by rw [dueM, if_neg (not_not_intro zc21)]; exact ⟨rfl, rfl⟩)
set_option maxHeartbeats 2000000 in
theorem c_X5_needsDeep (l : Launch) {σ : Sg} {f : Nat → Int32} {x : Int32} {a : Nat} (hx : x = nI a) (ha : a < 6) : Con l 1 yX5_needsDeep cX5_needsDeep 2 (some .boolean) [vR (8, 0, 0), vI x] (sa σ f) (pureP (deepM f a) (sa σ f)) := by
  subst hx
  refine con_of pn_X5_needsDeep (Nat.le_of_ble_eq_true rfl) (fun hPK hok => ?_)
  show G l (Rm 1) RX5 cX5_needsDeep 2 (some .boolean) _ 0 [some (vR (8, 0, 0)), some (vI (nI a))] [] (sa σ f)
  refine g_blk (pc' := 3) (loc' := [some (vR (8, 0, 0)), some (vI (nI a))]) (st' := [vI (3 : Int32), vI (nI a), vR (8, 0, 0)]) (σ' := sa σ f) fl5_ok [(0, .aload_n 0), (1, .iload_n 1), (2, .iconst 3)] (by decide +kernel) rfl rfl ?_
  refine g_callVp (8, 0, 0) [vI (nI a), vI (3 : Int32)] [] vl_RX5_62 mi_X5_ofArea (c_X5_ofArea l (r := a) (c := 3) rfl rfl (by omega) (by omega)) rfl rfl rfl rfl ⟨Nat.le_of_ble_eq_true rfl, Nat.le_of_ble_eq_true rfl⟩ rfl (Nat.le_of_ble_eq_true rfl) (by decide +kernel) ?_
  refine g_blk (pc' := 8) (loc' := [some (vR (8, 0, 0)), some (vI (nI a))]) (st' := [vI (3 : Int32), vR (8, 0, 0), vI (ma f a 3)]) (σ' := sa σ f) fl5_ok [(6, .aload_n 0), (7, .iconst 3)] (by decide +kernel) rfl rfl ?_
  refine g_callVp (8, 0, 0) [vI (3 : Int32)] [vI (ma f a 3)] vl_RX5_58 mi_X5_setting (c_X5_setting l (c := 3) rfl (by omega)) rfl rfl rfl rfl ⟨Nat.le_of_ble_eq_true rfl, Nat.le_of_ble_eq_true rfl⟩ rfl (Nat.le_of_ble_eq_true rfl) (by decide +kernel) ?_
  refine g_icmp_lt (off := 7) (tgt := 18) (by decide +kernel) (by decide) (fun zc11 => ?_) (fun zc11 => ?_)
  · refine g_blk (pc' := 19) (loc' := [some (vR (8, 0, 0)), some (vI (nI a))]) (st' := [vI (0 : Int32)]) (σ' := sa σ f) fl5_ok [(18, .iconst 0)] (by decide +kernel) rfl rfl ?_
    exact g_zret (by decide +kernel) (Or.inl rfl) (by rw [deepM, if_pos zc11]; exact ⟨rfl, rfl⟩)
  · refine g_blk (pc' := 19) (loc' := [some (vR (8, 0, 0)), some (vI (nI a))]) (st' := [vI (1 : Int32)]) (σ' := sa σ f) fl5_ok [(14, .iconst 1), (15, .goto 4)] (by decide +kernel) rfl rfl ?_
    exact g_zret (by decide +kernel) (Or.inr rfl) (by rw [deepM, if_neg zc11]; exact ⟨rfl, rfl⟩)
set_option maxHeartbeats 2000000 in
theorem lp_X5_loadOf (l : Launch) {σ : Sg} {f : Nat → Int32} {r nt : Nat} (hr : r < 8) (hnt : f 3 = nI nt) (h12 : nt ≤ 12) : ∀ (k t : Nat), t + k = nt → G l (Rm 1) RX5 cX5_loadOf 4 (some .int) (pureP (lm f r nt) (sa σ f)) 9 [some (vR (8, 0, 0)), some (vI (nI r)), some (vI (lm f r t)), some (vI (nI t))] [] (sa σ f) := by
  intro k
  induction k with
  | zero =>
    intro t hk
    refine g_blk (pc' := 16) (loc' := [some (vR (8, 0, 0)), some (vI (nI r)), some (vI (lm f r t)), some (vI (nI t))]) (st' := [vI (f 3), vI (nI t)]) (σ' := sa σ f) fl5_ok [(9, .iload_n 3), (10, .aload_n 0), (11, .getfield 7), (14, .iconst 3), (15, .iaload)] (by decide +kernel) rfl rfl ?_
    refine g_icmp_ge (off := 41) (tgt := 57) (by decide +kernel) (by decide) (fun zc16 => ?_) (fun zc16 => ?_)
    · rw [hnt, nI_leI (by omega) (by omega)] at zc16
      refine g_blk (pc' := 58) (loc' := [some (vR (8, 0, 0)), some (vI (nI r)), some (vI (lm f r t)), some (vI (nI t))]) (st' := [vI (lm f r t)]) (σ' := sa σ f) fl5_ok [(57, .iload_n 2)] (by decide +kernel) rfl rfl ?_
      obtain rfl : t = nt := by omega
      exact g_iret (by decide +kernel) ⟨rfl, rfl⟩
    · rw [hnt, nI_leI (by omega) (by omega)] at zc16
      exact absurd (by omega) zc16
  | succ k ih =>
    intro t hk
    refine g_blk (pc' := 16) (loc' := [some (vR (8, 0, 0)), some (vI (nI r)), some (vI (lm f r t)), some (vI (nI t))]) (st' := [vI (f 3), vI (nI t)]) (σ' := sa σ f) fl5_ok [(9, .iload_n 3), (10, .aload_n 0), (11, .getfield 7), (14, .iconst 3), (15, .iaload)] (by decide +kernel) rfl rfl ?_
    refine g_icmp_ge (off := 41) (tgt := 57) (by decide +kernel) (by decide) (fun zc16 => ?_) (fun zc16 => ?_)
    · rw [hnt, nI_leI (by omega) (by omega)] at zc16
      exact absurd zc16 (by omega)
    · rw [hnt, nI_leI (by omega) (by omega)] at zc16
      refine g_blk (pc' := 23) (loc' := [some (vR (8, 0, 0)), some (vI (nI r)), some (vI (lm f r t)), some (vI (nI t))]) (st' := [vI (1 : Int32), vI (nI t), vR (8, 0, 0), vI (lm f r t)]) (σ' := sa σ f) fl5_ok [(19, .iload_n 2), (20, .aload_n 0), (21, .iload_n 3), (22, .iconst 1)] (by decide +kernel) rfl rfl ?_
      refine g_callVp (8, 0, 0) [vI (nI t), vI (1 : Int32)] [vI (lm f r t)] vl_RX5_65 mi_X5_ofTask (c_X5_ofTask l (r := t) (c := 1) rfl rfl (by omega) (by omega)) rfl rfl rfl rfl ⟨Nat.le_of_ble_eq_true rfl, Nat.le_of_ble_eq_true rfl⟩ rfl (Nat.le_of_ble_eq_true rfl) (by decide +kernel) ?_
      refine g_blk (pc' := 27) (loc' := [some (vR (8, 0, 0)), some (vI (nI r)), some (vI (lm f r t)), some (vI (nI t))]) (st' := [vI (nI r), vI (mk f t 1), vI (lm f r t)]) (σ' := sa σ f) fl5_ok [(26, .iload_n 1)] (by decide +kernel) rfl rfl ?_
      refine g_icmp_ne (off := 21) (tgt := 48) (by decide +kernel) (by decide) (fun zc27 => ?_) (fun zc27 => ?_)
      · refine g_blk (pc' := 9) (loc' := [some (vR (8, 0, 0)), some (vI (nI r)), some (vI ((lm f r t) + (0 : Int32))), some (vI ((nI t) + (1 : Int32)))]) (st' := []) (σ' := sa σ f) fl5_ok [(48, .iconst 0), (49, .iadd), (50, .istore_n 2), (51, .iinc 3 1), (54, .goto (-45))] (by decide +kernel) rfl rfl ?_
        have hstep : lm f r (t + 1) = (lm f r t) + (0 : Int32) := by rw [lm, if_pos zc27]
        have hih := ih (t + 1) (by omega)
        rw [hstep] at hih
        rw [nI_1]
        exact hih
      · refine g_blk (pc' := 33) (loc' := [some (vR (8, 0, 0)), some (vI (nI r)), some (vI (lm f r t)), some (vI (nI t))]) (st' := [vI (3 : Int32), vI (nI t), vR (8, 0, 0), vI (lm f r t)]) (σ' := sa σ f) fl5_ok [(30, .aload_n 0), (31, .iload_n 3), (32, .iconst 3)] (by decide +kernel) rfl rfl ?_
        refine g_callVp (8, 0, 0) [vI (nI t), vI (3 : Int32)] [vI (lm f r t)] vl_RX5_65 mi_X5_ofTask (c_X5_ofTask l (r := t) (c := 3) rfl rfl (by omega) (by omega)) rfl rfl rfl rfl ⟨Nat.le_of_ble_eq_true rfl, Nat.le_of_ble_eq_true rfl⟩ rfl (Nat.le_of_ble_eq_true rfl) (by decide +kernel) ?_
        refine g_if_ne (off := 12) (tgt := 48) (by decide +kernel) (by decide) (fun zc36 => ?_) (fun zc36 => ?_)
        · refine g_blk (pc' := 9) (loc' := [some (vR (8, 0, 0)), some (vI (nI r)), some (vI ((lm f r t) + (0 : Int32))), some (vI ((nI t) + (1 : Int32)))]) (st' := []) (σ' := sa σ f) fl5_ok [(48, .iconst 0), (49, .iadd), (50, .istore_n 2), (51, .iinc 3 1), (54, .goto (-45))] (by decide +kernel) rfl rfl ?_
          have hstep : lm f r (t + 1) = (lm f r t) + (0 : Int32) := by rw [lm, if_neg (not_not_intro zc27), if_pos zc36]
          have hih := ih (t + 1) (by omega)
          rw [hstep] at hih
          rw [nI_1]
          exact hih
        · refine g_blk (pc' := 42) (loc' := [some (vR (8, 0, 0)), some (vI (nI r)), some (vI (lm f r t)), some (vI (nI t))]) (st' := [vI (2 : Int32), vI (nI t), vR (8, 0, 0), vI (lm f r t)]) (σ' := sa σ f) fl5_ok [(39, .aload_n 0), (40, .iload_n 3), (41, .iconst 2)] (by decide +kernel) rfl rfl ?_
          refine g_callVp (8, 0, 0) [vI (nI t), vI (2 : Int32)] [vI (lm f r t)] vl_RX5_65 mi_X5_ofTask (c_X5_ofTask l (r := t) (c := 2) rfl rfl (by omega) (by omega)) rfl rfl rfl rfl ⟨Nat.le_of_ble_eq_true rfl, Nat.le_of_ble_eq_true rfl⟩ rfl (Nat.le_of_ble_eq_true rfl) (by decide +kernel) ?_
          refine g_blk (pc' := 9) (loc' := [some (vR (8, 0, 0)), some (vI (nI r)), some (vI ((lm f r t) + (mk f t 2))), some (vI ((nI t) + (1 : Int32)))]) (st' := []) (σ' := sa σ f) fl5_ok [(45, .goto 4), (49, .iadd), (50, .istore_n 2), (51, .iinc 3 1), (54, .goto (-45))] (by decide +kernel) rfl rfl ?_
          have hstep : lm f r (t + 1) = (lm f r t) + (mk f t 2) := by rw [lm, if_neg (not_not_intro zc27), if_neg (not_not_intro zc36)]
          have hih := ih (t + 1) (by omega)
          rw [hstep] at hih
          rw [nI_1]
          exact hih
set_option maxHeartbeats 2000000 in
theorem c_X5_loadOf (l : Launch) {σ : Sg} {f : Nat → Int32} {x : Int32} {r nt : Nat} (hx : x = nI r) (hr : r < 8) (hnt : f 3 = nI nt) (h12 : nt ≤ 12) : Con l 1 yX5_loadOf cX5_loadOf 4 (some .int) [vR (8, 0, 0), vI x] (sa σ f) (pureP (lm f r nt) (sa σ f)) := by
  subst hx
  refine con_of pn_X5_loadOf (Nat.le_of_ble_eq_true rfl) (fun hPK hok => ?_)
  show G l (Rm 1) RX5 cX5_loadOf 4 (some .int) _ 0 [some (vR (8, 0, 0)), some (vI (nI r)), none, none] [] (sa σ f)
  refine g_blk (pc' := 3) (loc' := [some (vR (8, 0, 0)), some (vI (nI r)), none, none]) (st' := [vI (1 : Int32), vI (nI r), vR (8, 0, 0)]) (σ' := sa σ f) fl5_ok [(0, .aload_n 0), (1, .iload_n 1), (2, .iconst 1)] (by decide +kernel) rfl rfl ?_
  refine g_callVp (8, 0, 0) [vI (nI r), vI (1 : Int32)] [] vl_RX5_44 mi_X5_of (c_X5_of l (r := r) (c := 1) rfl rfl (by omega) (by omega)) rfl rfl rfl rfl ⟨Nat.le_of_ble_eq_true rfl, Nat.le_of_ble_eq_true rfl⟩ rfl (Nat.le_of_ble_eq_true rfl) (by decide +kernel) ?_
  refine g_blk (pc' := 9) (loc' := [some (vR (8, 0, 0)), some (vI (nI r)), some (vI (mo f r 1)), some (vI (0 : Int32))]) (st' := []) (σ' := sa σ f) fl5_ok [(6, .istore_n 2), (7, .iconst 0), (8, .istore_n 3)] (by decide +kernel) rfl rfl ?_
  exact lp_X5_loadOf l hr hnt h12 nt 0 (by omega)
set_option maxHeartbeats 2000000 in
theorem c_X5_isAhead (l : Launch) {σ : Sg} {f : Nat → Int32} {x y : Int32} {r o nt : Nat} (hx : x = nI r) (hy : y = nI o) (hr : r < 8) (ho : o < 8) (hnt : f 3 = nI nt) (h12 : nt ≤ 12) : Con l 2 yX5_isAhead cX5_isAhead 5 (some .boolean) [vR (8, 0, 0), vI x, vI y] (sa σ f) (pureP (aheadM f r o nt) (sa σ f)) := by
  subst hx hy
  refine con_of pn_X5_isAhead (Nat.le_of_ble_eq_true rfl) (fun hPK hok => ?_)
  show G l (Rm 2) RX5 cX5_isAhead 5 (some .boolean) _ 0 [some (vR (8, 0, 0)), some (vI (nI r)), some (vI (nI o)), none, none] [] (sa σ f)
  refine g_blk (pc' := 2) (loc' := [some (vR (8, 0, 0)), some (vI (nI r)), some (vI (nI o)), none, none]) (st' := [vI (nI r), vR (8, 0, 0)]) (σ' := sa σ f) fl5_ok [(0, .aload_n 0), (1, .iload_n 1)] (by decide +kernel) rfl rfl ?_
  refine g_callVp (8, 0, 0) [vI (nI r)] [] vl_RX5_71 mi_X5_loadOf (c_X5_loadOf l (r := r) rfl (by omega) hnt (by omega)) rfl rfl rfl rfl ⟨Nat.le_of_ble_eq_true rfl, Nat.le_of_ble_eq_true rfl⟩ rfl (Nat.le_of_ble_eq_true rfl) (by decide +kernel) ?_
  refine g_blk (pc' := 8) (loc' := [some (vR (8, 0, 0)), some (vI (nI r)), some (vI (nI o)), none, none]) (st' := [vI (0 : Int32), vI (nI o), vR (8, 0, 0), vI (lm f r nt)]) (σ' := sa σ f) fl5_ok [(5, .aload_n 0), (6, .iload_n 2), (7, .iconst 0)] (by decide +kernel) rfl rfl ?_
  refine g_callVp (8, 0, 0) [vI (nI o), vI (0 : Int32)] [vI (lm f r nt)] vl_RX5_44 mi_X5_of (c_X5_of l (r := o) (c := 0) rfl rfl (by omega) (by omega)) rfl rfl rfl rfl ⟨Nat.le_of_ble_eq_true rfl, Nat.le_of_ble_eq_true rfl⟩ rfl (Nat.le_of_ble_eq_true rfl) (by decide +kernel) ?_
  refine g_blk (pc' := 15) (loc' := [some (vR (8, 0, 0)), some (vI (nI r)), some (vI (nI o)), some (vI ((lm f r nt) * (mo f o 0))), none]) (st' := [vI (nI o), vR (8, 0, 0)]) (σ' := sa σ f) fl5_ok [(11, .imul), (12, .istore_n 3), (13, .aload_n 0), (14, .iload_n 2)] (by decide +kernel) rfl rfl ?_
  refine g_callVp (8, 0, 0) [vI (nI o)] [] vl_RX5_71 mi_X5_loadOf (c_X5_loadOf l (r := o) rfl (by omega) hnt (by omega)) rfl rfl rfl rfl ⟨Nat.le_of_ble_eq_true rfl, Nat.le_of_ble_eq_true rfl⟩ rfl (Nat.le_of_ble_eq_true rfl) (by decide +kernel) ?_
  refine g_blk (pc' := 21) (loc' := [some (vR (8, 0, 0)), some (vI (nI r)), some (vI (nI o)), some (vI ((lm f r nt) * (mo f o 0))), none]) (st' := [vI (0 : Int32), vI (nI r), vR (8, 0, 0), vI (lm f o nt)]) (σ' := sa σ f) fl5_ok [(18, .aload_n 0), (19, .iload_n 1), (20, .iconst 0)] (by decide +kernel) rfl rfl ?_
  refine g_callVp (8, 0, 0) [vI (nI r), vI (0 : Int32)] [vI (lm f o nt)] vl_RX5_44 mi_X5_of (c_X5_of l (r := r) (c := 0) rfl rfl (by omega) (by omega)) rfl rfl rfl rfl ⟨Nat.le_of_ble_eq_true rfl, Nat.le_of_ble_eq_true rfl⟩ rfl (Nat.le_of_ble_eq_true rfl) (by decide +kernel) ?_
  refine g_blk (pc' := 30) (loc' := [some (vR (8, 0, 0)), some (vI (nI r)), some (vI (nI o)), some (vI ((lm f r nt) * (mo f o 0))), some (vI ((lm f o nt) * (mo f r 0)))]) (st' := [vI ((lm f o nt) * (mo f r 0)), vI ((lm f r nt) * (mo f o 0))]) (σ' := sa σ f) fl5_ok [(24, .imul), (25, .istore 4), (27, .iload_n 3), (28, .iload 4)] (by decide +kernel) rfl rfl ?_
  refine g_icmp_eq (off := 15) (tgt := 45) (by decide +kernel) (by decide) (fun zc30 => ?_) (fun zc30 => ?_)
  · refine g_blk (pc' := 48) (loc' := [some (vR (8, 0, 0)), some (vI (nI r)), some (vI (nI o)), some (vI ((lm f r nt) * (mo f o 0))), some (vI ((lm f o nt) * (mo f r 0)))]) (st' := [vI (2 : Int32), vI (nI r), vR (8, 0, 0)]) (σ' := sa σ f) fl5_ok [(45, .aload_n 0), (46, .iload_n 1), (47, .iconst 2)] (by decide +kernel) rfl rfl ?_
    refine g_callVp (8, 0, 0) [vI (nI r), vI (2 : Int32)] [] vl_RX5_44 mi_X5_of (c_X5_of l (r := r) (c := 2) rfl rfl (by omega) (by omega)) rfl rfl rfl rfl ⟨Nat.le_of_ble_eq_true rfl, Nat.le_of_ble_eq_true rfl⟩ rfl (Nat.le_of_ble_eq_true rfl) (by decide +kernel) ?_
    refine g_blk (pc' := 54) (loc' := [some (vR (8, 0, 0)), some (vI (nI r)), some (vI (nI o)), some (vI ((lm f r nt) * (mo f o 0))), some (vI ((lm f o nt) * (mo f r 0)))]) (st' := [vI (2 : Int32), vI (nI o), vR (8, 0, 0), vI (mo f r 2)]) (σ' := sa σ f) fl5_ok [(51, .aload_n 0), (52, .iload_n 2), (53, .iconst 2)] (by decide +kernel) rfl rfl ?_
    refine g_callVp (8, 0, 0) [vI (nI o), vI (2 : Int32)] [vI (mo f r 2)] vl_RX5_44 mi_X5_of (c_X5_of l (r := o) (c := 2) rfl rfl (by omega) (by omega)) rfl rfl rfl rfl ⟨Nat.le_of_ble_eq_true rfl, Nat.le_of_ble_eq_true rfl⟩ rfl (Nat.le_of_ble_eq_true rfl) (by decide +kernel) ?_
    refine g_icmp_eq (off := 26) (tgt := 83) (by decide +kernel) (by decide) (fun zc57 => ?_) (fun zc57 => ?_)
    · refine g_blk (pc' := 85) (loc' := [some (vR (8, 0, 0)), some (vI (nI r)), some (vI (nI o)), some (vI ((lm f r nt) * (mo f o 0))), some (vI ((lm f o nt) * (mo f r 0)))]) (st' := [vI (nI o), vI (nI r)]) (σ' := sa σ f) fl5_ok [(83, .iload_n 1), (84, .iload_n 2)] (by decide +kernel) rfl rfl ?_
      refine g_icmp_ge (off := 7) (tgt := 92) (by decide +kernel) (by decide) (fun zc85 => ?_) (fun zc85 => ?_)
      · refine g_blk (pc' := 93) (loc' := [some (vR (8, 0, 0)), some (vI (nI r)), some (vI (nI o)), some (vI ((lm f r nt) * (mo f o 0))), some (vI ((lm f o nt) * (mo f r 0)))]) (st' := [vI (0 : Int32)]) (σ' := sa σ f) fl5_ok [(92, .iconst 0)] (by decide +kernel) rfl rfl ?_
        exact g_zret (by decide +kernel) (Or.inl rfl) (by rw [aheadM, if_pos zc30, if_pos zc57, if_pos zc85]; exact ⟨rfl, rfl⟩)
      · refine g_blk (pc' := 93) (loc' := [some (vR (8, 0, 0)), some (vI (nI r)), some (vI (nI o)), some (vI ((lm f r nt) * (mo f o 0))), some (vI ((lm f o nt) * (mo f r 0)))]) (st' := [vI (1 : Int32)]) (σ' := sa σ f) fl5_ok [(88, .iconst 1), (89, .goto 4)] (by decide +kernel) rfl rfl ?_
        exact g_zret (by decide +kernel) (Or.inr rfl) (by rw [aheadM, if_pos zc30, if_pos zc57, if_neg zc85]; exact ⟨rfl, rfl⟩)
    · refine g_blk (pc' := 63) (loc' := [some (vR (8, 0, 0)), some (vI (nI r)), some (vI (nI o)), some (vI ((lm f r nt) * (mo f o 0))), some (vI ((lm f o nt) * (mo f r 0)))]) (st' := [vI (2 : Int32), vI (nI r), vR (8, 0, 0)]) (σ' := sa σ f) fl5_ok [(60, .aload_n 0), (61, .iload_n 1), (62, .iconst 2)] (by decide +kernel) rfl rfl ?_
      refine g_callVp (8, 0, 0) [vI (nI r), vI (2 : Int32)] [] vl_RX5_44 mi_X5_of (c_X5_of l (r := r) (c := 2) rfl rfl (by omega) (by omega)) rfl rfl rfl rfl ⟨Nat.le_of_ble_eq_true rfl, Nat.le_of_ble_eq_true rfl⟩ rfl (Nat.le_of_ble_eq_true rfl) (by decide +kernel) ?_
      refine g_blk (pc' := 69) (loc' := [some (vR (8, 0, 0)), some (vI (nI r)), some (vI (nI o)), some (vI ((lm f r nt) * (mo f o 0))), some (vI ((lm f o nt) * (mo f r 0)))]) (st' := [vI (2 : Int32), vI (nI o), vR (8, 0, 0), vI (mo f r 2)]) (σ' := sa σ f) fl5_ok [(66, .aload_n 0), (67, .iload_n 2), (68, .iconst 2)] (by decide +kernel) rfl rfl ?_
      refine g_callVp (8, 0, 0) [vI (nI o), vI (2 : Int32)] [vI (mo f r 2)] vl_RX5_44 mi_X5_of (c_X5_of l (r := o) (c := 2) rfl rfl (by omega) (by omega)) rfl rfl rfl rfl ⟨Nat.le_of_ble_eq_true rfl, Nat.le_of_ble_eq_true rfl⟩ rfl (Nat.le_of_ble_eq_true rfl) (by decide +kernel) ?_
      refine g_icmp_le (off := 7) (tgt := 79) (by decide +kernel) (by decide) (fun zc72 => ?_) (fun zc72 => ?_)
      · refine g_blk (pc' := 93) (loc' := [some (vR (8, 0, 0)), some (vI (nI r)), some (vI (nI o)), some (vI ((lm f r nt) * (mo f o 0))), some (vI ((lm f o nt) * (mo f r 0)))]) (st' := [vI (0 : Int32)]) (σ' := sa σ f) fl5_ok [(79, .iconst 0), (80, .goto 13)] (by decide +kernel) rfl rfl ?_
        exact g_zret (by decide +kernel) (Or.inl rfl) (by rw [aheadM, if_pos zc30, if_neg zc57, if_pos zc72]; exact ⟨rfl, rfl⟩)
      · refine g_blk (pc' := 93) (loc' := [some (vR (8, 0, 0)), some (vI (nI r)), some (vI (nI o)), some (vI ((lm f r nt) * (mo f o 0))), some (vI ((lm f o nt) * (mo f r 0)))]) (st' := [vI (1 : Int32)]) (σ' := sa σ f) fl5_ok [(75, .iconst 1), (76, .goto 17)] (by decide +kernel) rfl rfl ?_
        exact g_zret (by decide +kernel) (Or.inr rfl) (by rw [aheadM, if_pos zc30, if_neg zc57, if_neg zc72]; exact ⟨rfl, rfl⟩)
  · refine g_blk (pc' := 36) (loc' := [some (vR (8, 0, 0)), some (vI (nI r)), some (vI (nI o)), some (vI ((lm f r nt) * (mo f o 0))), some (vI ((lm f o nt) * (mo f r 0)))]) (st' := [vI ((lm f o nt) * (mo f r 0)), vI ((lm f r nt) * (mo f o 0))]) (σ' := sa σ f) fl5_ok [(33, .iload_n 3), (34, .iload 4)] (by decide +kernel) rfl rfl ?_
    refine g_icmp_ge (off := 7) (tgt := 43) (by decide +kernel) (by decide) (fun zc36 => ?_) (fun zc36 => ?_)
    · refine g_blk (pc' := 44) (loc' := [some (vR (8, 0, 0)), some (vI (nI r)), some (vI (nI o)), some (vI ((lm f r nt) * (mo f o 0))), some (vI ((lm f o nt) * (mo f r 0)))]) (st' := [vI (0 : Int32)]) (σ' := sa σ f) fl5_ok [(43, .iconst 0)] (by decide +kernel) rfl rfl ?_
      exact g_zret (by decide +kernel) (Or.inl rfl) (by rw [aheadM, if_neg zc30, if_pos zc36]; exact ⟨rfl, rfl⟩)
    · refine g_blk (pc' := 44) (loc' := [some (vR (8, 0, 0)), some (vI (nI r)), some (vI (nI o)), some (vI ((lm f r nt) * (mo f o 0))), some (vI ((lm f o nt) * (mo f r 0)))]) (st' := [vI (1 : Int32)]) (σ' := sa σ f) fl5_ok [(39, .iconst 1), (40, .goto 4)] (by decide +kernel) rfl rfl ?_
      exact g_zret (by decide +kernel) (Or.inr rfl) (by rw [aheadM, if_neg zc30, if_neg zc36]; exact ⟨rfl, rfl⟩)
theorem best_or (f : Nat → Int32) (b : Int32) (nt : Nat) : ∀ n, bestL f b nt n = -6 ∨ ∃ m, m < n ∧ bestL f b nt n = nI m
  | 0 => Or.inl rfl
  | n + 1 => by
    have ih := best_or f b nt n
    have up : bestL f b nt n = -6 ∨ ∃ m, m < n + 1 ∧ bestL f b nt n = nI m := ih.elim Or.inl (fun ⟨m, h1, h2⟩ => Or.inr ⟨m, by omega, h2⟩)
    rw [bestL]
    split
    · exact up
    · split
      · exact up
      · split
        · exact Or.inr ⟨n, by omega, rfl⟩
        · split
          · exact up
          · exact Or.inr ⟨n, by omega, rfl⟩
theorem best_nn {f : Nat → Int32} {b : Int32} {nt n : Nat} (h : ¬ bestL f b nt n < 0) : ∃ m, m < n ∧ bestL f b nt n = nI m := by
  rcases best_or f b nt n with q | q
  · rw [q] at h; exact absurd (by decide) h
  · exact q
set_option maxHeartbeats 2000000 in
theorem lp_X5_bestFor (l : Launch) {σ : Sg} {f : Nat → Int32} {b : Int32} {nr nt : Nat} (hnr : f 1 = nI nr) (h8 : nr ≤ 8) (hnt : f 3 = nI nt) (h12 : nt ≤ 12) : ∀ (k r : Nat), r + k = nr → G l (Rm 3) RX5 cX5_bestFor 4 (some .int) (pureP (bestL f b nt nr) (sa σ f)) 5 [some (vR (8, 0, 0)), some (vI b), some (vI (bestL f b nt r)), some (vI (nI r))] [] (sa σ f) := by
  intro k
  induction k with
  | zero =>
    intro r hk
    refine g_blk (pc' := 12) (loc' := [some (vR (8, 0, 0)), some (vI b), some (vI (bestL f b nt r)), some (vI (nI r))]) (st' := [vI (f 1), vI (nI r)]) (σ' := sa σ f) fl5_ok [(5, .iload_n 3), (6, .aload_n 0), (7, .getfield 7), (10, .iconst 1), (11, .iaload)] (by decide +kernel) rfl rfl ?_
    refine g_icmp_ge (off := 41) (tgt := 53) (by decide +kernel) (by decide) (fun zc12 => ?_) (fun zc12 => ?_)
    · rw [hnr, nI_leI (by omega) (by omega)] at zc12
      refine g_blk (pc' := 54) (loc' := [some (vR (8, 0, 0)), some (vI b), some (vI (bestL f b nt r)), some (vI (nI r))]) (st' := [vI (bestL f b nt r)]) (σ' := sa σ f) fl5_ok [(53, .iload_n 2)] (by decide +kernel) rfl rfl ?_
      obtain rfl : r = nr := by omega
      exact g_iret (by decide +kernel) ⟨rfl, rfl⟩
    · rw [hnr, nI_leI (by omega) (by omega)] at zc12
      exact absurd (by omega) zc12
  | succ k ih =>
    intro r hk
    refine g_blk (pc' := 12) (loc' := [some (vR (8, 0, 0)), some (vI b), some (vI (bestL f b nt r)), some (vI (nI r))]) (st' := [vI (f 1), vI (nI r)]) (σ' := sa σ f) fl5_ok [(5, .iload_n 3), (6, .aload_n 0), (7, .getfield 7), (10, .iconst 1), (11, .iaload)] (by decide +kernel) rfl rfl ?_
    refine g_icmp_ge (off := 41) (tgt := 53) (by decide +kernel) (by decide) (fun zc12 => ?_) (fun zc12 => ?_)
    · rw [hnr, nI_leI (by omega) (by omega)] at zc12
      exact absurd zc12 (by omega)
    · rw [hnr, nI_leI (by omega) (by omega)] at zc12
      refine g_blk (pc' := 17) (loc' := [some (vR (8, 0, 0)), some (vI b), some (vI (bestL f b nt r)), some (vI (nI r))]) (st' := [vI (nI r), vR (8, 0, 0)]) (σ' := sa σ f) fl5_ok [(15, .aload_n 0), (16, .iload_n 3)] (by decide +kernel) rfl rfl ?_
      refine g_callVp (8, 0, 0) [vI (nI r)] [] vl_RX5_48 mi_X5_isAway (c_X5_isAway l (r := r) rfl (by omega)) rfl rfl rfl rfl ⟨Nat.le_of_ble_eq_true rfl, Nat.le_of_ble_eq_true rfl⟩ rfl (Nat.le_of_ble_eq_true rfl) (by decide +kernel) ?_
      refine g_if_ne (off := 27) (tgt := 47) (by decide +kernel) (by decide) (fun zc20 => ?_) (fun zc20 => ?_)
      · refine g_blk (pc' := 5) (loc' := [some (vR (8, 0, 0)), some (vI b), some (vI (bestL f b nt r)), some (vI ((nI r) + (1 : Int32)))]) (st' := []) (σ' := sa σ f) fl5_ok [(47, .iinc 3 1), (50, .goto (-45))] (by decide +kernel) rfl rfl ?_
        have hstep : bestL f b nt (r + 1) = bestL f b nt r := by rw [bestL, if_pos zc20]
        have hih := ih (r + 1) (by omega)
        rw [hstep] at hih
        rw [nI_1]
        exact hih
      · refine g_blk (pc' := 25) (loc' := [some (vR (8, 0, 0)), some (vI b), some (vI (bestL f b nt r)), some (vI (nI r))]) (st' := [vI b, vI (nI r)]) (σ' := sa σ f) fl5_ok [(23, .iload_n 3), (24, .iload_n 1)] (by decide +kernel) rfl rfl ?_
        refine g_icmp_eq (off := 22) (tgt := 47) (by decide +kernel) (by decide) (fun zc25 => ?_) (fun zc25 => ?_)
        · refine g_blk (pc' := 5) (loc' := [some (vR (8, 0, 0)), some (vI b), some (vI (bestL f b nt r)), some (vI ((nI r) + (1 : Int32)))]) (st' := []) (σ' := sa σ f) fl5_ok [(47, .iinc 3 1), (50, .goto (-45))] (by decide +kernel) rfl rfl ?_
          have hstep : bestL f b nt (r + 1) = bestL f b nt r := by rw [bestL, if_neg (not_not_intro zc20), if_pos zc25]
          have hih := ih (r + 1) (by omega)
          rw [hstep] at hih
          rw [nI_1]
          exact hih
        · refine g_blk (pc' := 29) (loc' := [some (vR (8, 0, 0)), some (vI b), some (vI (bestL f b nt r)), some (vI (nI r))]) (st' := [vI (bestL f b nt r)]) (σ' := sa σ f) fl5_ok [(28, .iload_n 2)] (by decide +kernel) rfl rfl ?_
          refine g_if_lt (off := 12) (tgt := 41) (by decide +kernel) (by decide) (fun zc29 => ?_) (fun zc29 => ?_)
          · refine g_blk (pc' := 5) (loc' := [some (vR (8, 0, 0)), some (vI b), some (vI (nI r)), some (vI ((nI r) + (1 : Int32)))]) (st' := []) (σ' := sa σ f) fl5_ok [(41, .iload_n 3), (42, .goto 4), (46, .istore_n 2), (47, .iinc 3 1), (50, .goto (-45))] (by decide +kernel) rfl rfl ?_
            have hstep : bestL f b nt (r + 1) = nI r := by rw [bestL, if_neg (not_not_intro zc20), if_neg zc25, if_pos zc29]
            have hih := ih (r + 1) (by omega)
            rw [hstep] at hih
            rw [nI_1]
            exact hih
          · refine g_blk (pc' := 35) (loc' := [some (vR (8, 0, 0)), some (vI b), some (vI (bestL f b nt r)), some (vI (nI r))]) (st' := [vI (bestL f b nt r), vI (nI r), vR (8, 0, 0)]) (σ' := sa σ f) fl5_ok [(32, .aload_n 0), (33, .iload_n 3), (34, .iload_n 2)] (by decide +kernel) rfl rfl ?_
            obtain ⟨m, hm, hme⟩ := best_nn zc29
            have hcl : (bestL f b nt r).toNatClampNeg = m := by rw [hme]; exact nI_clamp (by omega)
            refine g_callVp (8, 0, 0) [vI (nI r), vI (bestL f b nt r)] [] vl_RX5_74 mi_X5_isAhead (c_X5_isAhead l (r := r) (o := m) rfl hme (by omega) (by omega) hnt (by omega)) rfl rfl rfl rfl ⟨Nat.le_of_ble_eq_true rfl, Nat.le_of_ble_eq_true rfl⟩ rfl (Nat.le_of_ble_eq_true rfl) (by decide +kernel) ?_
            refine g_if_eq (off := 7) (tgt := 45) (by decide +kernel) (by decide) (fun zc38 => ?_) (fun zc38 => ?_)
            · refine g_blk (pc' := 5) (loc' := [some (vR (8, 0, 0)), some (vI b), some (vI (bestL f b nt r)), some (vI ((nI r) + (1 : Int32)))]) (st' := []) (σ' := sa σ f) fl5_ok [(45, .iload_n 2), (46, .istore_n 2), (47, .iinc 3 1), (50, .goto (-45))] (by decide +kernel) rfl rfl ?_
              rw [← hcl] at zc38
              have hstep : bestL f b nt (r + 1) = bestL f b nt r := by rw [bestL, if_neg (not_not_intro zc20), if_neg zc25, if_neg zc29, if_pos zc38]
              have hih := ih (r + 1) (by omega)
              rw [hstep] at hih
              rw [nI_1]
              exact hih
            · refine g_blk (pc' := 5) (loc' := [some (vR (8, 0, 0)), some (vI b), some (vI (nI r)), some (vI ((nI r) + (1 : Int32)))]) (st' := []) (σ' := sa σ f) fl5_ok [(41, .iload_n 3), (42, .goto 4), (46, .istore_n 2), (47, .iinc 3 1), (50, .goto (-45))] (by decide +kernel) rfl rfl ?_
              rw [← hcl] at zc38
              have hstep : bestL f b nt (r + 1) = nI r := by rw [bestL, if_neg (not_not_intro zc20), if_neg zc25, if_neg zc29, if_neg zc38]
              have hih := ih (r + 1) (by omega)
              rw [hstep] at hih
              rw [nI_1]
              exact hih
set_option maxHeartbeats 2000000 in
theorem c_X5_bestFor (l : Launch) {σ : Sg} {f : Nat → Int32} {nr nt : Nat} (b : Int32) (hnr : f 1 = nI nr) (h8 : nr ≤ 8) (hnt : f 3 = nI nt) (h12 : nt ≤ 12) : Con l 3 yX5_bestFor cX5_bestFor 4 (some .int) [vR (8, 0, 0), vI b] (sa σ f) (pureP (bestL f b nt nr) (sa σ f)) := by
  refine con_of pn_X5_bestFor (Nat.le_of_ble_eq_true rfl) (fun hPK hok => ?_)
  show G l (Rm 3) RX5 cX5_bestFor 4 (some .int) _ 0 [some (vR (8, 0, 0)), some (vI b), none, none] [] (sa σ f)
  refine g_blk (pc' := 5) (loc' := [some (vR (8, 0, 0)), some (vI b), some (vI (-6 : Int32)), some (vI (0 : Int32))]) (st' := []) (σ' := sa σ f) fl5_ok [(0, .bipush (-6)), (2, .istore_n 2), (3, .iconst 0), (4, .istore_n 3)] (by decide +kernel) rfl rfl ?_
  exact lp_X5_bestFor l hnr h8 hnt h12 nr 0 (by omega)
set_option maxHeartbeats 2000000 in
theorem lp_X5_partnerOf (l : Launch) {σ : Sg} {f : Nat → Int32} {t : Nat} (ht : t < 12) : ∀ (k n : Nat), n + k = t → G l (Rm 1) RX5 cX5_partnerOf 5 (some .int) (pureP (partL f t t) (sa σ f)) 5 [some (vR (8, 0, 0)), some (vI (nI t)), some (vI (partL f t n)), some (vI (nI n)), none] [] (sa σ f) := by
  intro k
  induction k with
  | zero =>
    intro n hk
    refine g_blk (pc' := 7) (loc' := [some (vR (8, 0, 0)), some (vI (nI t)), some (vI (partL f t n)), some (vI (nI n)), none]) (st' := [vI (nI t), vI (nI n)]) (σ' := sa σ f) fl5_ok [(5, .iload_n 3), (6, .iload_n 1)] (by decide +kernel) rfl rfl ?_
    refine g_icmp_ge (off := 67) (tgt := 74) (by decide +kernel) (by decide) (fun zc7 => ?_) (fun zc7 => ?_)
    · rw [nI_leI (by omega) (by omega)] at zc7
      refine g_blk (pc' := 75) (loc' := [some (vR (8, 0, 0)), some (vI (nI t)), some (vI (partL f t n)), some (vI (nI n)), none]) (st' := [vI (partL f t n)]) (σ' := sa σ f) fl5_ok [(74, .iload_n 2)] (by decide +kernel) rfl rfl ?_
      obtain rfl : n = t := by omega
      exact g_iret (by decide +kernel) ⟨rfl, rfl⟩
    · rw [nI_leI (by omega) (by omega)] at zc7
      exact absurd (by omega) zc7
  | succ k ih =>
    intro n hk
    refine g_blk (pc' := 7) (loc' := [some (vR (8, 0, 0)), some (vI (nI t)), some (vI (partL f t n)), some (vI (nI n)), none]) (st' := [vI (nI t), vI (nI n)]) (σ' := sa σ f) fl5_ok [(5, .iload_n 3), (6, .iload_n 1)] (by decide +kernel) rfl rfl ?_
    refine g_icmp_ge (off := 67) (tgt := 74) (by decide +kernel) (by decide) (fun zc7 => ?_) (fun zc7 => ?_)
    · rw [nI_leI (by omega) (by omega)] at zc7
      exact absurd zc7 (by omega)
    · rw [nI_leI (by omega) (by omega)] at zc7
      refine g_blk (pc' := 13) (loc' := [some (vR (8, 0, 0)), some (vI (nI t)), some (vI (partL f t n)), some (vI (nI n)), none]) (st' := [vI (4 : Int32), vI (nI n), vR (8, 0, 0)]) (σ' := sa σ f) fl5_ok [(10, .aload_n 0), (11, .iload_n 3), (12, .iconst 4)] (by decide +kernel) rfl rfl ?_
      refine g_callVp (8, 0, 0) [vI (nI n), vI (4 : Int32)] [] vl_RX5_65 mi_X5_ofTask (c_X5_ofTask l (r := n) (c := 4) rfl rfl (by omega) (by omega)) rfl rfl rfl rfl ⟨Nat.le_of_ble_eq_true rfl, Nat.le_of_ble_eq_true rfl⟩ rfl (Nat.le_of_ble_eq_true rfl) (by decide +kernel) ?_
      refine g_blk (pc' := 17) (loc' := [some (vR (8, 0, 0)), some (vI (nI t)), some (vI (partL f t n)), some (vI (nI n)), none]) (st' := [vI (1 : Int32), vI (mk f n 4)]) (σ' := sa σ f) fl5_ok [(16, .iconst 1)] (by decide +kernel) rfl rfl ?_
      refine g_icmp_ne (off := 22) (tgt := 39) (by decide +kernel) (by decide) (fun zc17 => ?_) (fun zc17 => ?_)
      · refine g_blk (pc' := 44) (loc' := [some (vR (8, 0, 0)), some (vI (nI t)), some (vI (partL f t n)), some (vI (nI n)), some (vI (0 : Int32))]) (st' := [vI (0 : Int32)]) (σ' := sa σ f) fl5_ok [(39, .iconst 0), (40, .istore 4), (42, .iload 4)] (by decide +kernel) rfl rfl ?_
        refine g_if_eq (off := 22) (tgt := 66) (by decide +kernel) (by decide) (fun zc44 => ?_) (fun zc44 => ?_)
        · refine g_blk (pc' := 5) (loc' := [some (vR (8, 0, 0)), some (vI (nI t)), some (vI (partL f t n)), some (vI ((nI n) + (1 : Int32))), some (vI (0 : Int32))]) (st' := []) (σ' := sa σ f) fl5_ok [(66, .iload_n 2), (67, .istore_n 2), (68, .iinc 3 1), (71, .goto (-66))] (by decide +kernel) rfl rfl ?_
          have hstep : partL f t (n + 1) = partL f t n := by rw [partL, if_pos zc17]
          have hih := ih (n + 1) (by omega)
          rw [hstep] at hih
          rw [nI_1]
          exact g_sub (loc' := [some (vR (8, 0, 0)), some (vI (nI t)), some (vI (partL f t n)), some (vI (nI (n + 1))), none]) ⟨Or.inr rfl, Or.inr rfl, Or.inr rfl, Or.inr rfl, Or.inl rfl, trivial⟩ hih
        · exact absurd zc44 (by decide)
      · refine g_blk (pc' := 23) (loc' := [some (vR (8, 0, 0)), some (vI (nI t)), some (vI (partL f t n)), some (vI (nI n)), none]) (st' := [vI (0 : Int32), vI (nI n), vR (8, 0, 0)]) (σ' := sa σ f) fl5_ok [(20, .aload_n 0), (21, .iload_n 3), (22, .iconst 0)] (by decide +kernel) rfl rfl ?_
        refine g_callVp (8, 0, 0) [vI (nI n), vI (0 : Int32)] [] vl_RX5_65 mi_X5_ofTask (c_X5_ofTask l (r := n) (c := 0) rfl rfl (by omega) (by omega)) rfl rfl rfl rfl ⟨Nat.le_of_ble_eq_true rfl, Nat.le_of_ble_eq_true rfl⟩ rfl (Nat.le_of_ble_eq_true rfl) (by decide +kernel) ?_
        refine g_blk (pc' := 29) (loc' := [some (vR (8, 0, 0)), some (vI (nI t)), some (vI (partL f t n)), some (vI (nI n)), none]) (st' := [vI (0 : Int32), vI (nI t), vR (8, 0, 0), vI (mk f n 0)]) (σ' := sa σ f) fl5_ok [(26, .aload_n 0), (27, .iload_n 1), (28, .iconst 0)] (by decide +kernel) rfl rfl ?_
        refine g_callVp (8, 0, 0) [vI (nI t), vI (0 : Int32)] [vI (mk f n 0)] vl_RX5_65 mi_X5_ofTask (c_X5_ofTask l (r := t) (c := 0) rfl rfl (by omega) (by omega)) rfl rfl rfl rfl ⟨Nat.le_of_ble_eq_true rfl, Nat.le_of_ble_eq_true rfl⟩ rfl (Nat.le_of_ble_eq_true rfl) (by decide +kernel) ?_
        refine g_icmp_ne (off := 7) (tgt := 39) (by decide +kernel) (by decide) (fun zc32 => ?_) (fun zc32 => ?_)
        · refine g_blk (pc' := 44) (loc' := [some (vR (8, 0, 0)), some (vI (nI t)), some (vI (partL f t n)), some (vI (nI n)), some (vI (0 : Int32))]) (st' := [vI (0 : Int32)]) (σ' := sa σ f) fl5_ok [(39, .iconst 0), (40, .istore 4), (42, .iload 4)] (by decide +kernel) rfl rfl ?_
          refine g_if_eq (off := 22) (tgt := 66) (by decide +kernel) (by decide) (fun zc44 => ?_) (fun zc44 => ?_)
          · refine g_blk (pc' := 5) (loc' := [some (vR (8, 0, 0)), some (vI (nI t)), some (vI (partL f t n)), some (vI ((nI n) + (1 : Int32))), some (vI (0 : Int32))]) (st' := []) (σ' := sa σ f) fl5_ok [(66, .iload_n 2), (67, .istore_n 2), (68, .iinc 3 1), (71, .goto (-66))] (by decide +kernel) rfl rfl ?_
            have hstep : partL f t (n + 1) = partL f t n := by rw [partL, if_neg (not_not_intro zc17), if_pos zc32]
            have hih := ih (n + 1) (by omega)
            rw [hstep] at hih
            rw [nI_1]
            exact g_sub (loc' := [some (vR (8, 0, 0)), some (vI (nI t)), some (vI (partL f t n)), some (vI (nI (n + 1))), none]) ⟨Or.inr rfl, Or.inr rfl, Or.inr rfl, Or.inr rfl, Or.inl rfl, trivial⟩ hih
          · exact absurd zc44 (by decide)
        · refine g_blk (pc' := 44) (loc' := [some (vR (8, 0, 0)), some (vI (nI t)), some (vI (partL f t n)), some (vI (nI n)), some (vI (1 : Int32))]) (st' := [vI (1 : Int32)]) (σ' := sa σ f) fl5_ok [(35, .iconst 1), (36, .goto 4), (40, .istore 4), (42, .iload 4)] (by decide +kernel) rfl rfl ?_
          refine g_if_eq (off := 22) (tgt := 66) (by decide +kernel) (by decide) (fun zc44 => ?_) (fun zc44 => ?_)
          · exact absurd zc44 (by decide)
          · refine g_blk (pc' := 50) (loc' := [some (vR (8, 0, 0)), some (vI (nI t)), some (vI (partL f t n)), some (vI (nI n)), some (vI (1 : Int32))]) (st' := [vI (4 : Int32), vI (nI t), vR (8, 0, 0)]) (σ' := sa σ f) fl5_ok [(47, .aload_n 0), (48, .iload_n 1), (49, .iconst 4)] (by decide +kernel) rfl rfl ?_
            refine g_callVp (8, 0, 0) [vI (nI t), vI (4 : Int32)] [] vl_RX5_65 mi_X5_ofTask (c_X5_ofTask l (r := t) (c := 4) rfl rfl (by omega) (by omega)) rfl rfl rfl rfl ⟨Nat.le_of_ble_eq_true rfl, Nat.le_of_ble_eq_true rfl⟩ rfl (Nat.le_of_ble_eq_true rfl) (by decide +kernel) ?_
            refine g_blk (pc' := 54) (loc' := [some (vR (8, 0, 0)), some (vI (nI t)), some (vI (partL f t n)), some (vI (nI n)), some (vI (1 : Int32))]) (st' := [vI (1 : Int32), vI (mk f t 4)]) (σ' := sa σ f) fl5_ok [(53, .iconst 1)] (by decide +kernel) rfl rfl ?_
            refine g_icmp_ne (off := 12) (tgt := 66) (by decide +kernel) (by decide) (fun zc54 => ?_) (fun zc54 => ?_)
            · refine g_blk (pc' := 5) (loc' := [some (vR (8, 0, 0)), some (vI (nI t)), some (vI (partL f t n)), some (vI ((nI n) + (1 : Int32))), some (vI (1 : Int32))]) (st' := []) (σ' := sa σ f) fl5_ok [(66, .iload_n 2), (67, .istore_n 2), (68, .iinc 3 1), (71, .goto (-66))] (by decide +kernel) rfl rfl ?_
              have hstep : partL f t (n + 1) = partL f t n := by rw [partL, if_neg (not_not_intro zc17), if_neg (not_not_intro zc32), if_pos zc54]
              have hih := ih (n + 1) (by omega)
              rw [hstep] at hih
              rw [nI_1]
              exact g_sub (loc' := [some (vR (8, 0, 0)), some (vI (nI t)), some (vI (partL f t n)), some (vI (nI (n + 1))), none]) ⟨Or.inr rfl, Or.inr rfl, Or.inr rfl, Or.inr rfl, Or.inl rfl, trivial⟩ hih
            · refine g_blk (pc' := 60) (loc' := [some (vR (8, 0, 0)), some (vI (nI t)), some (vI (partL f t n)), some (vI (nI n)), some (vI (1 : Int32))]) (st' := [vI (1 : Int32), vI (nI n), vR (8, 0, 0)]) (σ' := sa σ f) fl5_ok [(57, .aload_n 0), (58, .iload_n 3), (59, .iconst 1)] (by decide +kernel) rfl rfl ?_
              refine g_callVp (8, 0, 0) [vI (nI n), vI (1 : Int32)] [] vl_RX5_65 mi_X5_ofTask (c_X5_ofTask l (r := n) (c := 1) rfl rfl (by omega) (by omega)) rfl rfl rfl rfl ⟨Nat.le_of_ble_eq_true rfl, Nat.le_of_ble_eq_true rfl⟩ rfl (Nat.le_of_ble_eq_true rfl) (by decide +kernel) ?_
              refine g_blk (pc' := 5) (loc' := [some (vR (8, 0, 0)), some (vI (nI t)), some (vI (mk f n 1)), some (vI ((nI n) + (1 : Int32))), some (vI (1 : Int32))]) (st' := []) (σ' := sa σ f) fl5_ok [(63, .goto 4), (67, .istore_n 2), (68, .iinc 3 1), (71, .goto (-66))] (by decide +kernel) rfl rfl ?_
              have hstep : partL f t (n + 1) = mk f n 1 := by rw [partL, if_neg (not_not_intro zc17), if_neg (not_not_intro zc32), if_neg (not_not_intro zc54)]
              have hih := ih (n + 1) (by omega)
              rw [hstep] at hih
              rw [nI_1]
              exact g_sub (loc' := [some (vR (8, 0, 0)), some (vI (nI t)), some (vI (mk f n 1)), some (vI (nI (n + 1))), none]) ⟨Or.inr rfl, Or.inr rfl, Or.inr rfl, Or.inr rfl, Or.inl rfl, trivial⟩ hih
set_option maxHeartbeats 2000000 in
theorem c_X5_partnerOf (l : Launch) {σ : Sg} {f : Nat → Int32} {x : Int32} {t : Nat} (hx : x = nI t) (ht : t < 12) : Con l 1 yX5_partnerOf cX5_partnerOf 5 (some .int) [vR (8, 0, 0), vI x] (sa σ f) (pureP (partL f t t) (sa σ f)) := by
  subst hx
  refine con_of pn_X5_partnerOf (Nat.le_of_ble_eq_true rfl) (fun hPK hok => ?_)
  show G l (Rm 1) RX5 cX5_partnerOf 5 (some .int) _ 0 [some (vR (8, 0, 0)), some (vI (nI t)), none, none, none] [] (sa σ f)
  refine g_blk (pc' := 5) (loc' := [some (vR (8, 0, 0)), some (vI (nI t)), some (vI (-6 : Int32)), some (vI (0 : Int32)), none]) (st' := []) (σ' := sa σ f) fl5_ok [(0, .bipush (-6)), (2, .istore_n 2), (3, .iconst 0), (4, .istore_n 3)] (by decide +kernel) rfl rfl ?_
  exact lp_X5_partnerOf l ht t 0 (by omega)
theorem last_bit (f : Nat → Int32) (t : Nat) : ∀ n, lastL f t n = 0 ∨ lastL f t n = 1
  | 0 => Or.inr rfl
  | n + 1 => by
    rw [lastL]
    split
    · exact Or.inl rfl
    · split
      · exact Or.inr rfl
      · split
        · exact Or.inr rfl
        · split
          · exact Or.inl rfl
          · exact Or.inr rfl
set_option maxHeartbeats 2000000 in
theorem lp_X5_isLastOf (l : Launch) {σ : Sg} {f : Nat → Int32} {t nt : Nat} (ht : t < 12) (hnt : f 3 = nI nt) (h12 : nt ≤ 12) : ∀ (k n : Nat), n + k = nt → G l (Rm 1) RX5 cX5_isLastOf 4 (some .boolean) (pureP (lastL f t nt) (sa σ f)) 4 [some (vR (8, 0, 0)), some (vI (nI t)), some (vI (lastL f t n)), some (vI (nI n))] [] (sa σ f) := by
  intro k
  induction k with
  | zero =>
    intro n hk
    refine g_blk (pc' := 11) (loc' := [some (vR (8, 0, 0)), some (vI (nI t)), some (vI (lastL f t n)), some (vI (nI n))]) (st' := [vI (f 3), vI (nI n)]) (σ' := sa σ f) fl5_ok [(4, .iload_n 3), (5, .aload_n 0), (6, .getfield 7), (9, .iconst 3), (10, .iaload)] (by decide +kernel) rfl rfl ?_
    refine g_icmp_ge (off := 49) (tgt := 60) (by decide +kernel) (by decide) (fun zc11 => ?_) (fun zc11 => ?_)
    · rw [hnt, nI_leI (by omega) (by omega)] at zc11
      refine g_blk (pc' := 61) (loc' := [some (vR (8, 0, 0)), some (vI (nI t)), some (vI (lastL f t n)), some (vI (nI n))]) (st' := [vI (lastL f t n)]) (σ' := sa σ f) fl5_ok [(60, .iload_n 2)] (by decide +kernel) rfl rfl ?_
      obtain rfl : n = nt := by omega
      exact g_zret (by decide +kernel) (last_bit f t n) ⟨rfl, rfl⟩
    · rw [hnt, nI_leI (by omega) (by omega)] at zc11
      exact absurd (by omega) zc11
  | succ k ih =>
    intro n hk
    refine g_blk (pc' := 11) (loc' := [some (vR (8, 0, 0)), some (vI (nI t)), some (vI (lastL f t n)), some (vI (nI n))]) (st' := [vI (f 3), vI (nI n)]) (σ' := sa σ f) fl5_ok [(4, .iload_n 3), (5, .aload_n 0), (6, .getfield 7), (9, .iconst 3), (10, .iaload)] (by decide +kernel) rfl rfl ?_
    refine g_icmp_ge (off := 49) (tgt := 60) (by decide +kernel) (by decide) (fun zc11 => ?_) (fun zc11 => ?_)
    · rw [hnt, nI_leI (by omega) (by omega)] at zc11
      exact absurd zc11 (by omega)
    · rw [hnt, nI_leI (by omega) (by omega)] at zc11
      refine g_blk (pc' := 15) (loc' := [some (vR (8, 0, 0)), some (vI (nI t)), some (vI (lastL f t n)), some (vI (nI n))]) (st' := [vI (lastL f t n)]) (σ' := sa σ f) fl5_ok [(14, .iload_n 2)] (by decide +kernel) rfl rfl ?_
      refine g_if_eq (off := 37) (tgt := 52) (by decide +kernel) (by decide) (fun zc15 => ?_) (fun zc15 => ?_)
      · refine g_blk (pc' := 4) (loc' := [some (vR (8, 0, 0)), some (vI (nI t)), some (vI (0 : Int32)), some (vI ((nI n) + (1 : Int32)))]) (st' := []) (σ' := sa σ f) fl5_ok [(52, .iconst 0), (53, .istore_n 2), (54, .iinc 3 1), (57, .goto (-53))] (by decide +kernel) rfl rfl ?_
        have hstep : lastL f t (n + 1) = (0 : Int32) := by rw [lastL, if_pos zc15]
        have hih := ih (n + 1) (by omega)
        rw [hstep] at hih
        rw [nI_1]
        exact hih
      · refine g_blk (pc' := 20) (loc' := [some (vR (8, 0, 0)), some (vI (nI t)), some (vI (lastL f t n)), some (vI (nI n))]) (st' := [vI (nI t), vI (nI n)]) (σ' := sa σ f) fl5_ok [(18, .iload_n 3), (19, .iload_n 1)] (by decide +kernel) rfl rfl ?_
        refine g_icmp_eq (off := 28) (tgt := 48) (by decide +kernel) (by decide) (fun zc20 => ?_) (fun zc20 => ?_)
        · refine g_blk (pc' := 4) (loc' := [some (vR (8, 0, 0)), some (vI (nI t)), some (vI (1 : Int32)), some (vI ((nI n) + (1 : Int32)))]) (st' := []) (σ' := sa σ f) fl5_ok [(48, .iconst 1), (49, .goto 4), (53, .istore_n 2), (54, .iinc 3 1), (57, .goto (-53))] (by decide +kernel) rfl rfl ?_
          have hstep : lastL f t (n + 1) = (1 : Int32) := by rw [lastL, if_neg zc15, if_pos zc20]
          have hih := ih (n + 1) (by omega)
          rw [hstep] at hih
          rw [nI_1]
          exact hih
        · refine g_blk (pc' := 26) (loc' := [some (vR (8, 0, 0)), some (vI (nI t)), some (vI (lastL f t n)), some (vI (nI n))]) (st' := [vI (0 : Int32), vI (nI n), vR (8, 0, 0)]) (σ' := sa σ f) fl5_ok [(23, .aload_n 0), (24, .iload_n 3), (25, .iconst 0)] (by decide +kernel) rfl rfl ?_
          refine g_callVp (8, 0, 0) [vI (nI n), vI (0 : Int32)] [] vl_RX5_65 mi_X5_ofTask (c_X5_ofTask l (r := n) (c := 0) rfl rfl (by omega) (by omega)) rfl rfl rfl rfl ⟨Nat.le_of_ble_eq_true rfl, Nat.le_of_ble_eq_true rfl⟩ rfl (Nat.le_of_ble_eq_true rfl) (by decide +kernel) ?_
          refine g_blk (pc' := 32) (loc' := [some (vR (8, 0, 0)), some (vI (nI t)), some (vI (lastL f t n)), some (vI (nI n))]) (st' := [vI (0 : Int32), vI (nI t), vR (8, 0, 0), vI (mk f n 0)]) (σ' := sa σ f) fl5_ok [(29, .aload_n 0), (30, .iload_n 1), (31, .iconst 0)] (by decide +kernel) rfl rfl ?_
          refine g_callVp (8, 0, 0) [vI (nI t), vI (0 : Int32)] [vI (mk f n 0)] vl_RX5_65 mi_X5_ofTask (c_X5_ofTask l (r := t) (c := 0) rfl rfl (by omega) (by omega)) rfl rfl rfl rfl ⟨Nat.le_of_ble_eq_true rfl, Nat.le_of_ble_eq_true rfl⟩ rfl (Nat.le_of_ble_eq_true rfl) (by decide +kernel) ?_
          refine g_icmp_ne (off := 13) (tgt := 48) (by decide +kernel) (by decide) (fun zc35 => ?_) (fun zc35 => ?_)
          · refine g_blk (pc' := 4) (loc' := [some (vR (8, 0, 0)), some (vI (nI t)), some (vI (1 : Int32)), some (vI ((nI n) + (1 : Int32)))]) (st' := []) (σ' := sa σ f) fl5_ok [(48, .iconst 1), (49, .goto 4), (53, .istore_n 2), (54, .iinc 3 1), (57, .goto (-53))] (by decide +kernel) rfl rfl ?_
            have hstep : lastL f t (n + 1) = (1 : Int32) := by rw [lastL, if_neg zc15, if_neg zc20, if_pos zc35]
            have hih := ih (n + 1) (by omega)
            rw [hstep] at hih
            rw [nI_1]
            exact hih
          · refine g_blk (pc' := 41) (loc' := [some (vR (8, 0, 0)), some (vI (nI t)), some (vI (lastL f t n)), some (vI (nI n))]) (st' := [vI (3 : Int32), vI (nI n), vR (8, 0, 0)]) (σ' := sa σ f) fl5_ok [(38, .aload_n 0), (39, .iload_n 3), (40, .iconst 3)] (by decide +kernel) rfl rfl ?_
            refine g_callVp (8, 0, 0) [vI (nI n), vI (3 : Int32)] [] vl_RX5_65 mi_X5_ofTask (c_X5_ofTask l (r := n) (c := 3) rfl rfl (by omega) (by omega)) rfl rfl rfl rfl ⟨Nat.le_of_ble_eq_true rfl, Nat.le_of_ble_eq_true rfl⟩ rfl (Nat.le_of_ble_eq_true rfl) (by decide +kernel) ?_
            refine g_blk (pc' := 45) (loc' := [some (vR (8, 0, 0)), some (vI (nI t)), some (vI (lastL f t n)), some (vI (nI n))]) (st' := [vI (1 : Int32), vI (mk f n 3)]) (σ' := sa σ f) fl5_ok [(44, .iconst 1)] (by decide +kernel) rfl rfl ?_
            refine g_icmp_ne (off := 7) (tgt := 52) (by decide +kernel) (by decide) (fun zc45 => ?_) (fun zc45 => ?_)
            · refine g_blk (pc' := 4) (loc' := [some (vR (8, 0, 0)), some (vI (nI t)), some (vI (0 : Int32)), some (vI ((nI n) + (1 : Int32)))]) (st' := []) (σ' := sa σ f) fl5_ok [(52, .iconst 0), (53, .istore_n 2), (54, .iinc 3 1), (57, .goto (-53))] (by decide +kernel) rfl rfl ?_
              have hstep : lastL f t (n + 1) = (0 : Int32) := by rw [lastL, if_neg zc15, if_neg zc20, if_neg (not_not_intro zc35), if_pos zc45]
              have hih := ih (n + 1) (by omega)
              rw [hstep] at hih
              rw [nI_1]
              exact hih
            · refine g_blk (pc' := 4) (loc' := [some (vR (8, 0, 0)), some (vI (nI t)), some (vI (1 : Int32)), some (vI ((nI n) + (1 : Int32)))]) (st' := []) (σ' := sa σ f) fl5_ok [(48, .iconst 1), (49, .goto 4), (53, .istore_n 2), (54, .iinc 3 1), (57, .goto (-53))] (by decide +kernel) rfl rfl ?_
              have hstep : lastL f t (n + 1) = (1 : Int32) := by rw [lastL, if_neg zc15, if_neg zc20, if_neg (not_not_intro zc35), if_neg (not_not_intro zc45)]
              have hih := ih (n + 1) (by omega)
              rw [hstep] at hih
              rw [nI_1]
              exact hih
set_option maxHeartbeats 2000000 in
theorem c_X5_isLastOf (l : Launch) {σ : Sg} {f : Nat → Int32} {x : Int32} {t nt : Nat} (hx : x = nI t) (ht : t < 12) (hnt : f 3 = nI nt) (h12 : nt ≤ 12) : Con l 1 yX5_isLastOf cX5_isLastOf 4 (some .boolean) [vR (8, 0, 0), vI x] (sa σ f) (pureP (lastL f t nt) (sa σ f)) := by
  subst hx
  refine con_of pn_X5_isLastOf (Nat.le_of_ble_eq_true rfl) (fun hPK hok => ?_)
  show G l (Rm 1) RX5 cX5_isLastOf 4 (some .boolean) _ 0 [some (vR (8, 0, 0)), some (vI (nI t)), none, none] [] (sa σ f)
  refine g_blk (pc' := 4) (loc' := [some (vR (8, 0, 0)), some (vI (nI t)), some (vI (1 : Int32)), some (vI (0 : Int32))]) (st' := []) (σ' := sa σ f) fl5_ok [(0, .iconst 1), (1, .istore_n 2), (2, .iconst 0), (3, .istore_n 3)] (by decide +kernel) rfl rfl ?_
  exact lp_X5_isLastOf l ht hnt h12 nt 0 (by omega)
theorem pr_bit (f : Nat → Int32) (a b : Int32) : ∀ n, prL f a b n = 0 ∨ prL f a b n = 1
  | 0 => Or.inl rfl
  | n + 1 => by
    rw [prL]
    split
    · exact Or.inr rfl
    · split
      · exact Or.inl rfl
      · split
        · exact Or.inl rfl
        · exact Or.inr rfl
set_option maxHeartbeats 2000000 in
theorem lp_X5_isProposed (l : Launch) {σ : Sg} {f : Nat → Int32} {a b : Int32} {ns : Nat} (hns : f 7 = nI ns) (h6 : ns ≤ 6) : ∀ (k n : Nat), n + k = ns → G l (Rm 1) RX5 cX5_isProposed 5 (some .boolean) (pureP (prL f a b ns) (sa σ f)) 5 [some (vR (8, 0, 0)), some (vI a), some (vI b), some (vI (prL f a b n)), some (vI (nI n))] [] (sa σ f) := by
  intro k
  induction k with
  | zero =>
    intro n hk
    refine g_blk (pc' := 14) (loc' := [some (vR (8, 0, 0)), some (vI a), some (vI b), some (vI (prL f a b n)), some (vI (nI n))]) (st' := [vI (f 7), vI (nI n)]) (σ' := sa σ f) fl5_ok [(5, .iload 4), (7, .aload_n 0), (8, .getfield 7), (11, .bipush 7), (13, .iaload)] (by decide +kernel) rfl rfl ?_
    refine g_icmp_ge (off := 41) (tgt := 55) (by decide +kernel) (by decide) (fun zc14 => ?_) (fun zc14 => ?_)
    · rw [hns, nI_leI (by omega) (by omega)] at zc14
      refine g_blk (pc' := 56) (loc' := [some (vR (8, 0, 0)), some (vI a), some (vI b), some (vI (prL f a b n)), some (vI (nI n))]) (st' := [vI (prL f a b n)]) (σ' := sa σ f) fl5_ok [(55, .iload_n 3)] (by decide +kernel) rfl rfl ?_
      obtain rfl : n = ns := by omega
      exact g_zret (by decide +kernel) (pr_bit f a b n) ⟨rfl, rfl⟩
    · rw [hns, nI_leI (by omega) (by omega)] at zc14
      exact absurd (by omega) zc14
  | succ k ih =>
    intro n hk
    refine g_blk (pc' := 14) (loc' := [some (vR (8, 0, 0)), some (vI a), some (vI b), some (vI (prL f a b n)), some (vI (nI n))]) (st' := [vI (f 7), vI (nI n)]) (σ' := sa σ f) fl5_ok [(5, .iload 4), (7, .aload_n 0), (8, .getfield 7), (11, .bipush 7), (13, .iaload)] (by decide +kernel) rfl rfl ?_
    refine g_icmp_ge (off := 41) (tgt := 55) (by decide +kernel) (by decide) (fun zc14 => ?_) (fun zc14 => ?_)
    · rw [hns, nI_leI (by omega) (by omega)] at zc14
      exact absurd zc14 (by omega)
    · rw [hns, nI_leI (by omega) (by omega)] at zc14
      refine g_blk (pc' := 18) (loc' := [some (vR (8, 0, 0)), some (vI a), some (vI b), some (vI (prL f a b n)), some (vI (nI n))]) (st' := [vI (prL f a b n)]) (σ' := sa σ f) fl5_ok [(17, .iload_n 3)] (by decide +kernel) rfl rfl ?_
      refine g_if_ne (off := 25) (tgt := 43) (by decide +kernel) (by decide) (fun zc18 => ?_) (fun zc18 => ?_)
      · refine g_blk (pc' := 5) (loc' := [some (vR (8, 0, 0)), some (vI a), some (vI b), some (vI (1 : Int32)), some (vI ((nI n) + (1 : Int32)))]) (st' := []) (σ' := sa σ f) fl5_ok [(43, .iconst 1), (44, .goto 4), (48, .istore_n 3), (49, .iinc 4 1), (52, .goto (-47))] (by decide +kernel) rfl rfl ?_
        have hstep : prL f a b (n + 1) = (1 : Int32) := by rw [prL, if_pos zc18]
        have hih := ih (n + 1) (by omega)
        rw [hstep] at hih
        rw [nI_1]
        exact hih
      · refine g_blk (pc' := 25) (loc' := [some (vR (8, 0, 0)), some (vI a), some (vI b), some (vI (prL f a b n)), some (vI (nI n))]) (st' := [vI (0 : Int32), vI (nI n), vR (8, 0, 0)]) (σ' := sa σ f) fl5_ok [(21, .aload_n 0), (22, .iload 4), (24, .iconst 0)] (by decide +kernel) rfl rfl ?_
        refine g_callVp (8, 0, 0) [vI (nI n), vI (0 : Int32)] [] vl_RX5_96 mi_X5_ofSwap (c_X5_ofSwap l (r := n) (c := 0) rfl rfl (by omega) (by omega)) rfl rfl rfl rfl ⟨Nat.le_of_ble_eq_true rfl, Nat.le_of_ble_eq_true rfl⟩ rfl (Nat.le_of_ble_eq_true rfl) (by decide +kernel) ?_
        refine g_blk (pc' := 29) (loc' := [some (vR (8, 0, 0)), some (vI a), some (vI b), some (vI (prL f a b n)), some (vI (nI n))]) (st' := [vI a, vI (mw f n 0)]) (σ' := sa σ f) fl5_ok [(28, .iload_n 1)] (by decide +kernel) rfl rfl ?_
        refine g_icmp_ne (off := 18) (tgt := 47) (by decide +kernel) (by decide) (fun zc29 => ?_) (fun zc29 => ?_)
        · refine g_blk (pc' := 5) (loc' := [some (vR (8, 0, 0)), some (vI a), some (vI b), some (vI (0 : Int32)), some (vI ((nI n) + (1 : Int32)))]) (st' := []) (σ' := sa σ f) fl5_ok [(47, .iconst 0), (48, .istore_n 3), (49, .iinc 4 1), (52, .goto (-47))] (by decide +kernel) rfl rfl ?_
          have hstep : prL f a b (n + 1) = (0 : Int32) := by rw [prL, if_neg (not_not_intro zc18), if_pos zc29]
          have hih := ih (n + 1) (by omega)
          rw [hstep] at hih
          rw [nI_1]
          exact hih
        · refine g_blk (pc' := 36) (loc' := [some (vR (8, 0, 0)), some (vI a), some (vI b), some (vI (prL f a b n)), some (vI (nI n))]) (st' := [vI (1 : Int32), vI (nI n), vR (8, 0, 0)]) (σ' := sa σ f) fl5_ok [(32, .aload_n 0), (33, .iload 4), (35, .iconst 1)] (by decide +kernel) rfl rfl ?_
          refine g_callVp (8, 0, 0) [vI (nI n), vI (1 : Int32)] [] vl_RX5_96 mi_X5_ofSwap (c_X5_ofSwap l (r := n) (c := 1) rfl rfl (by omega) (by omega)) rfl rfl rfl rfl ⟨Nat.le_of_ble_eq_true rfl, Nat.le_of_ble_eq_true rfl⟩ rfl (Nat.le_of_ble_eq_true rfl) (by decide +kernel) ?_
          refine g_blk (pc' := 40) (loc' := [some (vR (8, 0, 0)), some (vI a), some (vI b), some (vI (prL f a b n)), some (vI (nI n))]) (st' := [vI b, vI (mw f n 1)]) (σ' := sa σ f) fl5_ok [(39, .iload_n 2)] (by decide +kernel) rfl rfl ?_
          refine g_icmp_ne (off := 7) (tgt := 47) (by decide +kernel) (by decide) (fun zc40 => ?_) (fun zc40 => ?_)
          · refine g_blk (pc' := 5) (loc' := [some (vR (8, 0, 0)), some (vI a), some (vI b), some (vI (0 : Int32)), some (vI ((nI n) + (1 : Int32)))]) (st' := []) (σ' := sa σ f) fl5_ok [(47, .iconst 0), (48, .istore_n 3), (49, .iinc 4 1), (52, .goto (-47))] (by decide +kernel) rfl rfl ?_
            have hstep : prL f a b (n + 1) = (0 : Int32) := by rw [prL, if_neg (not_not_intro zc18), if_neg (not_not_intro zc29), if_pos zc40]
            have hih := ih (n + 1) (by omega)
            rw [hstep] at hih
            rw [nI_1]
            exact hih
          · refine g_blk (pc' := 5) (loc' := [some (vR (8, 0, 0)), some (vI a), some (vI b), some (vI (1 : Int32)), some (vI ((nI n) + (1 : Int32)))]) (st' := []) (σ' := sa σ f) fl5_ok [(43, .iconst 1), (44, .goto 4), (48, .istore_n 3), (49, .iinc 4 1), (52, .goto (-47))] (by decide +kernel) rfl rfl ?_
            have hstep : prL f a b (n + 1) = (1 : Int32) := by rw [prL, if_neg (not_not_intro zc18), if_neg (not_not_intro zc29), if_neg (not_not_intro zc40)]
            have hih := ih (n + 1) (by omega)
            rw [hstep] at hih
            rw [nI_1]
            exact hih
set_option maxHeartbeats 2000000 in
theorem c_X5_isProposed (l : Launch) {σ : Sg} {f : Nat → Int32} {ns : Nat} (a b : Int32) (hns : f 7 = nI ns) (h6 : ns ≤ 6) : Con l 1 yX5_isProposed cX5_isProposed 5 (some .boolean) [vR (8, 0, 0), vI a, vI b] (sa σ f) (pureP (prL f a b ns) (sa σ f)) := by
  refine con_of pn_X5_isProposed (Nat.le_of_ble_eq_true rfl) (fun hPK hok => ?_)
  show G l (Rm 1) RX5 cX5_isProposed 5 (some .boolean) _ 0 [some (vR (8, 0, 0)), some (vI a), some (vI b), none, none] [] (sa σ f)
  refine g_blk (pc' := 5) (loc' := [some (vR (8, 0, 0)), some (vI a), some (vI b), some (vI (0 : Int32)), some (vI (0 : Int32))]) (st' := []) (σ' := sa σ f) fl5_ok [(0, .iconst 0), (1, .istore_n 3), (2, .iconst 0), (3, .istore 4)] (by decide +kernel) rfl rfl ?_
  exact lp_X5_isProposed l hns h6 ns 0 (by omega)
set_option maxHeartbeats 2000000 in
theorem lp_X5_openTasks (l : Launch) {σ : Sg} {f : Nat → Int32} {nt : Nat} (hnt : f 3 = nI nt) (h12 : nt ≤ 12) : ∀ (k n : Nat), n + k = nt → G l (Rm 1) RX5 cX5_openTasks 3 (some .int) (pureP (opT f nt) (sa σ f)) 4 [some (vR (8, 0, 0)), some (vI (opT f n)), some (vI (nI n))] [] (sa σ f) := by
  intro k
  induction k with
  | zero =>
    intro n hk
    refine g_blk (pc' := 11) (loc' := [some (vR (8, 0, 0)), some (vI (opT f n)), some (vI (nI n))]) (st' := [vI (f 3), vI (nI n)]) (σ' := sa σ f) fl5_ok [(4, .iload_n 2), (5, .aload_n 0), (6, .getfield 7), (9, .iconst 3), (10, .iaload)] (by decide +kernel) rfl rfl ?_
    refine g_icmp_ge (off := 26) (tgt := 37) (by decide +kernel) (by decide) (fun zc11 => ?_) (fun zc11 => ?_)
    · rw [hnt, nI_leI (by omega) (by omega)] at zc11
      refine g_blk (pc' := 38) (loc' := [some (vR (8, 0, 0)), some (vI (opT f n)), some (vI (nI n))]) (st' := [vI (opT f n)]) (σ' := sa σ f) fl5_ok [(37, .iload_n 1)] (by decide +kernel) rfl rfl ?_
      obtain rfl : n = nt := by omega
      exact g_iret (by decide +kernel) ⟨rfl, rfl⟩
    · rw [hnt, nI_leI (by omega) (by omega)] at zc11
      exact absurd (by omega) zc11
  | succ k ih =>
    intro n hk
    refine g_blk (pc' := 11) (loc' := [some (vR (8, 0, 0)), some (vI (opT f n)), some (vI (nI n))]) (st' := [vI (f 3), vI (nI n)]) (σ' := sa σ f) fl5_ok [(4, .iload_n 2), (5, .aload_n 0), (6, .getfield 7), (9, .iconst 3), (10, .iaload)] (by decide +kernel) rfl rfl ?_
    refine g_icmp_ge (off := 26) (tgt := 37) (by decide +kernel) (by decide) (fun zc11 => ?_) (fun zc11 => ?_)
    · rw [hnt, nI_leI (by omega) (by omega)] at zc11
      exact absurd zc11 (by omega)
    · rw [hnt, nI_leI (by omega) (by omega)] at zc11
      refine g_blk (pc' := 18) (loc' := [some (vR (8, 0, 0)), some (vI (opT f n)), some (vI (nI n))]) (st' := [vI (3 : Int32), vI (nI n), vR (8, 0, 0), vI (opT f n)]) (σ' := sa σ f) fl5_ok [(14, .iload_n 1), (15, .aload_n 0), (16, .iload_n 2), (17, .iconst 3)] (by decide +kernel) rfl rfl ?_
      refine g_callVp (8, 0, 0) [vI (nI n), vI (3 : Int32)] [vI (opT f n)] vl_RX5_65 mi_X5_ofTask (c_X5_ofTask l (r := n) (c := 3) rfl rfl (by omega) (by omega)) rfl rfl rfl rfl ⟨Nat.le_of_ble_eq_true rfl, Nat.le_of_ble_eq_true rfl⟩ rfl (Nat.le_of_ble_eq_true rfl) (by decide +kernel) ?_
      refine g_if_ne (off := 7) (tgt := 28) (by decide +kernel) (by decide) (fun zc21 => ?_) (fun zc21 => ?_)
      · refine g_blk (pc' := 4) (loc' := [some (vR (8, 0, 0)), some (vI ((opT f n) + (0 : Int32))), some (vI ((nI n) + (1 : Int32)))]) (st' := []) (σ' := sa σ f) fl5_ok [(28, .iconst 0), (29, .iadd), (30, .istore_n 1), (31, .iinc 2 1), (34, .goto (-30))] (by decide +kernel) rfl rfl ?_
        have hstep : opT f (n + 1) = (opT f n) + (0 : Int32) := by rw [opT, if_pos zc21]
        have hih := ih (n + 1) (by omega)
        rw [hstep] at hih
        rw [nI_1]
        exact hih
      · refine g_blk (pc' := 4) (loc' := [some (vR (8, 0, 0)), some (vI ((opT f n) + (1 : Int32))), some (vI ((nI n) + (1 : Int32)))]) (st' := []) (σ' := sa σ f) fl5_ok [(24, .iconst 1), (25, .goto 4), (29, .iadd), (30, .istore_n 1), (31, .iinc 2 1), (34, .goto (-30))] (by decide +kernel) rfl rfl ?_
        have hstep : opT f (n + 1) = (opT f n) + (1 : Int32) := by rw [opT, if_neg (not_not_intro zc21)]
        have hih := ih (n + 1) (by omega)
        rw [hstep] at hih
        rw [nI_1]
        exact hih
set_option maxHeartbeats 2000000 in
theorem c_X5_openTasks (l : Launch) {σ : Sg} {f : Nat → Int32} {nt : Nat} (hnt : f 3 = nI nt) (h12 : nt ≤ 12) : Con l 1 yX5_openTasks cX5_openTasks 3 (some .int) [vR (8, 0, 0)] (sa σ f) (pureP (opT f nt) (sa σ f)) := by
  refine con_of pn_X5_openTasks (Nat.le_of_ble_eq_true rfl) (fun hPK hok => ?_)
  show G l (Rm 1) RX5 cX5_openTasks 3 (some .int) _ 0 [some (vR (8, 0, 0)), none, none] [] (sa σ f)
  refine g_blk (pc' := 4) (loc' := [some (vR (8, 0, 0)), some (vI (0 : Int32)), some (vI (0 : Int32))]) (st' := []) (σ' := sa σ f) fl5_ok [(0, .iconst 0), (1, .istore_n 1), (2, .iconst 0), (3, .istore_n 2)] (by decide +kernel) rfl rfl ?_
  exact lp_X5_openTasks l hnt h12 nt 0 (by omega)
set_option maxHeartbeats 2000000 in
theorem lp_X5_foulest (l : Launch) {σ : Sg} {f : Nat → Int32} {na : Nat} (hna : f 2 = nI na) (h6 : na ≤ 6) : ∀ (k n : Nat), n + k = na → G l (Rm 1) RX5 cX5_foulest 3 (some .int) (pureP (foL f na) (sa σ f)) 4 [some (vR (8, 0, 0)), some (vI (foL f n)), some (vI (nI n))] [] (sa σ f) := by
  intro k
  induction k with
  | zero =>
    intro n hk
    refine g_blk (pc' := 11) (loc' := [some (vR (8, 0, 0)), some (vI (foL f n)), some (vI (nI n))]) (st' := [vI (f 2), vI (nI n)]) (σ' := sa σ f) fl5_ok [(4, .iload_n 2), (5, .aload_n 0), (6, .getfield 7), (9, .iconst 2), (10, .iaload)] (by decide +kernel) rfl rfl ?_
    refine g_icmp_ge (off := 30) (tgt := 41) (by decide +kernel) (by decide) (fun zc11 => ?_) (fun zc11 => ?_)
    · rw [hna, nI_leI (by omega) (by omega)] at zc11
      refine g_blk (pc' := 42) (loc' := [some (vR (8, 0, 0)), some (vI (foL f n)), some (vI (nI n))]) (st' := [vI (foL f n)]) (σ' := sa σ f) fl5_ok [(41, .iload_n 1)] (by decide +kernel) rfl rfl ?_
      obtain rfl : n = na := by omega
      exact g_iret (by decide +kernel) ⟨rfl, rfl⟩
    · rw [hna, nI_leI (by omega) (by omega)] at zc11
      exact absurd (by omega) zc11
  | succ k ih =>
    intro n hk
    refine g_blk (pc' := 11) (loc' := [some (vR (8, 0, 0)), some (vI (foL f n)), some (vI (nI n))]) (st' := [vI (f 2), vI (nI n)]) (σ' := sa σ f) fl5_ok [(4, .iload_n 2), (5, .aload_n 0), (6, .getfield 7), (9, .iconst 2), (10, .iaload)] (by decide +kernel) rfl rfl ?_
    refine g_icmp_ge (off := 30) (tgt := 41) (by decide +kernel) (by decide) (fun zc11 => ?_) (fun zc11 => ?_)
    · rw [hna, nI_leI (by omega) (by omega)] at zc11
      exact absurd zc11 (by omega)
    · rw [hna, nI_leI (by omega) (by omega)] at zc11
      refine g_blk (pc' := 17) (loc' := [some (vR (8, 0, 0)), some (vI (foL f n)), some (vI (nI n))]) (st' := [vI (3 : Int32), vI (nI n), vR (8, 0, 0)]) (σ' := sa σ f) fl5_ok [(14, .aload_n 0), (15, .iload_n 2), (16, .iconst 3)] (by decide +kernel) rfl rfl ?_
      refine g_callVp (8, 0, 0) [vI (nI n), vI (3 : Int32)] [] vl_RX5_62 mi_X5_ofArea (c_X5_ofArea l (r := n) (c := 3) rfl rfl (by omega) (by omega)) rfl rfl rfl rfl ⟨Nat.le_of_ble_eq_true rfl, Nat.le_of_ble_eq_true rfl⟩ rfl (Nat.le_of_ble_eq_true rfl) (by decide +kernel) ?_
      refine g_blk (pc' := 21) (loc' := [some (vR (8, 0, 0)), some (vI (foL f n)), some (vI (nI n))]) (st' := [vI (foL f n), vI (ma f n 3)]) (σ' := sa σ f) fl5_ok [(20, .iload_n 1)] (by decide +kernel) rfl rfl ?_
      refine g_icmp_le (off := 12) (tgt := 33) (by decide +kernel) (by decide) (fun zc21 => ?_) (fun zc21 => ?_)
      · refine g_blk (pc' := 4) (loc' := [some (vR (8, 0, 0)), some (vI (foL f n)), some (vI ((nI n) + (1 : Int32)))]) (st' := []) (σ' := sa σ f) fl5_ok [(33, .iload_n 1), (34, .istore_n 1), (35, .iinc 2 1), (38, .goto (-34))] (by decide +kernel) rfl rfl ?_
        have hstep : foL f (n + 1) = foL f n := by rw [foL, if_pos zc21]
        have hih := ih (n + 1) (by omega)
        rw [hstep] at hih
        rw [nI_1]
        exact hih
      · refine g_blk (pc' := 27) (loc' := [some (vR (8, 0, 0)), some (vI (foL f n)), some (vI (nI n))]) (st' := [vI (3 : Int32), vI (nI n), vR (8, 0, 0)]) (σ' := sa σ f) fl5_ok [(24, .aload_n 0), (25, .iload_n 2), (26, .iconst 3)] (by decide +kernel) rfl rfl ?_
        refine g_callVp (8, 0, 0) [vI (nI n), vI (3 : Int32)] [] vl_RX5_62 mi_X5_ofArea (c_X5_ofArea l (r := n) (c := 3) rfl rfl (by omega) (by omega)) rfl rfl rfl rfl ⟨Nat.le_of_ble_eq_true rfl, Nat.le_of_ble_eq_true rfl⟩ rfl (Nat.le_of_ble_eq_true rfl) (by decide +kernel) ?_
        refine g_blk (pc' := 4) (loc' := [some (vR (8, 0, 0)), some (vI (ma f n 3)), some (vI ((nI n) + (1 : Int32)))]) (st' := []) (σ' := sa σ f) fl5_ok [(30, .goto 4), (34, .istore_n 1), (35, .iinc 2 1), (38, .goto (-34))] (by decide +kernel) rfl rfl ?_
        have hstep : foL f (n + 1) = ma f n 3 := by rw [foL, if_neg zc21]
        have hih := ih (n + 1) (by omega)
        rw [hstep] at hih
        rw [nI_1]
        exact hih
set_option maxHeartbeats 2000000 in
theorem c_X5_foulest (l : Launch) {σ : Sg} {f : Nat → Int32} {na : Nat} (hna : f 2 = nI na) (h6 : na ≤ 6) : Con l 1 yX5_foulest cX5_foulest 3 (some .int) [vR (8, 0, 0)] (sa σ f) (pureP (foL f na) (sa σ f)) := by
  refine con_of pn_X5_foulest (Nat.le_of_ble_eq_true rfl) (fun hPK hok => ?_)
  show G l (Rm 1) RX5 cX5_foulest 3 (some .int) _ 0 [some (vR (8, 0, 0)), none, none] [] (sa σ f)
  refine g_blk (pc' := 4) (loc' := [some (vR (8, 0, 0)), some (vI (0 : Int32)), some (vI (0 : Int32))]) (st' := []) (σ' := sa σ f) fl5_ok [(0, .iconst 0), (1, .istore_n 1), (2, .iconst 0), (3, .istore_n 2)] (by decide +kernel) rfl rfl ?_
  exact lp_X5_foulest l hna h6 na 0 (by omega)
set_option maxHeartbeats 2000000 in
theorem lp_X5_openOf0 (l : Launch) {σ : Sg} {f : Nat → Int32} {r nt : Nat} (hr : r < 8) (hnt : f 3 = nI nt) (h12 : nt ≤ 12) : ∀ (k n : Nat), n + k = nt → G l (Rm 1) RX5 cX5_openOf 5 (some .int) (pureP (opN f r nt) (sa σ f)) 5 [some (vR (8, 0, 0)), some (vI (nI r)), some (vI (0 : Int32)), some (vI (opN f r n)), some (vI (nI n))] [] (sa σ f) := by
  intro k
  induction k with
  | zero =>
    intro n hk
    refine g_blk (pc' := 13) (loc' := [some (vR (8, 0, 0)), some (vI (nI r)), some (vI (0 : Int32)), some (vI (opN f r n)), some (vI (nI n))]) (st' := [vI (f 3), vI (nI n)]) (σ' := sa σ f) fl5_ok [(5, .iload 4), (7, .aload_n 0), (8, .getfield 7), (11, .iconst 3), (12, .iaload)] (by decide +kernel) rfl rfl ?_
    refine g_icmp_ge (off := 40) (tgt := 53) (by decide +kernel) (by decide) (fun zc13 => ?_) (fun zc13 => ?_)
    · rw [hnt, nI_leI (by omega) (by omega)] at zc13
      refine g_blk (pc' := 54) (loc' := [some (vR (8, 0, 0)), some (vI (nI r)), some (vI (0 : Int32)), some (vI (opN f r n)), some (vI (nI n))]) (st' := [vI (0 : Int32)]) (σ' := sa σ f) fl5_ok [(53, .iload_n 2)] (by decide +kernel) rfl rfl ?_
      refine g_if_eq (off := 8) (tgt := 62) (by decide +kernel) (by decide) (fun zc54 => ?_) (fun zc54 => ?_)
      · refine g_blk (pc' := 63) (loc' := [some (vR (8, 0, 0)), some (vI (nI r)), some (vI (0 : Int32)), some (vI (opN f r n)), some (vI (nI n))]) (st' := [vI (opN f r n)]) (σ' := sa σ f) fl5_ok [(62, .iload_n 3)] (by decide +kernel) rfl rfl ?_
        obtain rfl : n = nt := by omega
        exact g_iret (by decide +kernel) ⟨rfl, rfl⟩
      · exact absurd zc54 (by decide)
    · rw [hnt, nI_leI (by omega) (by omega)] at zc13
      exact absurd (by omega) zc13
  | succ k ih =>
    intro n hk
    refine g_blk (pc' := 13) (loc' := [some (vR (8, 0, 0)), some (vI (nI r)), some (vI (0 : Int32)), some (vI (opN f r n)), some (vI (nI n))]) (st' := [vI (f 3), vI (nI n)]) (σ' := sa σ f) fl5_ok [(5, .iload 4), (7, .aload_n 0), (8, .getfield 7), (11, .iconst 3), (12, .iaload)] (by decide +kernel) rfl rfl ?_
    refine g_icmp_ge (off := 40) (tgt := 53) (by decide +kernel) (by decide) (fun zc13 => ?_) (fun zc13 => ?_)
    · rw [hnt, nI_leI (by omega) (by omega)] at zc13
      exact absurd zc13 (by omega)
    · rw [hnt, nI_leI (by omega) (by omega)] at zc13
      refine g_blk (pc' := 20) (loc' := [some (vR (8, 0, 0)), some (vI (nI r)), some (vI (0 : Int32)), some (vI (opN f r n)), some (vI (nI n))]) (st' := [vI (1 : Int32), vI (nI n), vR (8, 0, 0)]) (σ' := sa σ f) fl5_ok [(16, .aload_n 0), (17, .iload 4), (19, .iconst 1)] (by decide +kernel) rfl rfl ?_
      refine g_callVp (8, 0, 0) [vI (nI n), vI (1 : Int32)] [] vl_RX5_65 mi_X5_ofTask (c_X5_ofTask l (r := n) (c := 1) rfl rfl (by omega) (by omega)) rfl rfl rfl rfl ⟨Nat.le_of_ble_eq_true rfl, Nat.le_of_ble_eq_true rfl⟩ rfl (Nat.le_of_ble_eq_true rfl) (by decide +kernel) ?_
      refine g_blk (pc' := 24) (loc' := [some (vR (8, 0, 0)), some (vI (nI r)), some (vI (0 : Int32)), some (vI (opN f r n)), some (vI (nI n))]) (st' := [vI (nI r), vI (mk f n 1)]) (σ' := sa σ f) fl5_ok [(23, .iload_n 1)] (by decide +kernel) rfl rfl ?_
      refine g_icmp_ne (off := 23) (tgt := 47) (by decide +kernel) (by decide) (fun zc24 => ?_) (fun zc24 => ?_)
      · refine g_blk (pc' := 5) (loc' := [some (vR (8, 0, 0)), some (vI (nI r)), some (vI (0 : Int32)), some (vI (opN f r n)), some (vI ((nI n) + (1 : Int32)))]) (st' := []) (σ' := sa σ f) fl5_ok [(47, .iinc 4 1), (50, .goto (-45))] (by decide +kernel) rfl rfl ?_
        have hstep : opN f r (n + 1) = opN f r n := by rw [opN, if_pos zc24]
        have hih := ih (n + 1) (by omega)
        rw [hstep] at hih
        rw [nI_1]
        exact hih
      · refine g_blk (pc' := 31) (loc' := [some (vR (8, 0, 0)), some (vI (nI r)), some (vI (0 : Int32)), some (vI (opN f r n)), some (vI (nI n))]) (st' := [vI (3 : Int32), vI (nI n), vR (8, 0, 0)]) (σ' := sa σ f) fl5_ok [(27, .aload_n 0), (28, .iload 4), (30, .iconst 3)] (by decide +kernel) rfl rfl ?_
        refine g_callVp (8, 0, 0) [vI (nI n), vI (3 : Int32)] [] vl_RX5_65 mi_X5_ofTask (c_X5_ofTask l (r := n) (c := 3) rfl rfl (by omega) (by omega)) rfl rfl rfl rfl ⟨Nat.le_of_ble_eq_true rfl, Nat.le_of_ble_eq_true rfl⟩ rfl (Nat.le_of_ble_eq_true rfl) (by decide +kernel) ?_
        refine g_if_ne (off := 13) (tgt := 47) (by decide +kernel) (by decide) (fun zc34 => ?_) (fun zc34 => ?_)
        · refine g_blk (pc' := 5) (loc' := [some (vR (8, 0, 0)), some (vI (nI r)), some (vI (0 : Int32)), some (vI (opN f r n)), some (vI ((nI n) + (1 : Int32)))]) (st' := []) (σ' := sa σ f) fl5_ok [(47, .iinc 4 1), (50, .goto (-45))] (by decide +kernel) rfl rfl ?_
          have hstep : opN f r (n + 1) = opN f r n := by rw [opN, if_neg (not_not_intro zc24), if_pos zc34]
          have hih := ih (n + 1) (by omega)
          rw [hstep] at hih
          rw [nI_1]
          exact hih
        · refine g_blk (pc' := 38) (loc' := [some (vR (8, 0, 0)), some (vI (nI r)), some (vI (0 : Int32)), some (vI (opN f r n)), some (vI (nI n))]) (st' := [vI (0 : Int32)]) (σ' := sa σ f) fl5_ok [(37, .iload_n 2)] (by decide +kernel) rfl rfl ?_
          refine g_if_eq (off := 6) (tgt := 44) (by decide +kernel) (by decide) (fun zc38 => ?_) (fun zc38 => ?_)
          · refine g_blk (pc' := 5) (loc' := [some (vR (8, 0, 0)), some (vI (nI r)), some (vI (0 : Int32)), some (vI ((opN f r n) + (1 : Int32))), some (vI ((nI n) + (1 : Int32)))]) (st' := []) (σ' := sa σ f) fl5_ok [(44, .iinc 3 1), (47, .iinc 4 1), (50, .goto (-45))] (by decide +kernel) rfl rfl ?_
            have hstep : opN f r (n + 1) = (opN f r n) + (1 : Int32) := by rw [opN, if_neg (not_not_intro zc24), if_neg (not_not_intro zc34)]
            have hih := ih (n + 1) (by omega)
            rw [hstep] at hih
            rw [nI_1]
            exact hih
          · exact absurd zc38 (by decide)
set_option maxHeartbeats 2000000 in
theorem c_X5_openOf0 (l : Launch) {σ : Sg} {f : Nat → Int32} {x : Int32} {r nt : Nat} (hx : x = nI r) (hr : r < 8) (hnt : f 3 = nI nt) (h12 : nt ≤ 12) : Con l 1 yX5_openOf cX5_openOf 5 (some .int) [vR (8, 0, 0), vI x, vI (0 : Int32)] (sa σ f) (pureP (opN f r nt) (sa σ f)) := by
  subst hx
  refine con_of pn_X5_openOf (Nat.le_of_ble_eq_true rfl) (fun hPK hok => ?_)
  show G l (Rm 1) RX5 cX5_openOf 5 (some .int) _ 0 [some (vR (8, 0, 0)), some (vI (nI r)), some (vI (0 : Int32)), none, none] [] (sa σ f)
  refine g_blk (pc' := 5) (loc' := [some (vR (8, 0, 0)), some (vI (nI r)), some (vI (0 : Int32)), some (vI (0 : Int32)), some (vI (0 : Int32))]) (st' := []) (σ' := sa σ f) fl5_ok [(0, .iconst 0), (1, .istore_n 3), (2, .iconst 0), (3, .istore 4)] (by decide +kernel) rfl rfl ?_
  exact lp_X5_openOf0 l hr hnt h12 nt 0 (by omega)
set_option maxHeartbeats 2000000 in
theorem lp_X5_openOf1 (l : Launch) {σ : Sg} {f : Nat → Int32} {r nt : Nat} (hr : r < 8) (hnt : f 3 = nI nt) (h12 : nt ≤ 12) : ∀ (k n : Nat), n + k = nt → opF f r k n = opF f r nt 0 → G l (Rm 1) RX5 cX5_openOf 5 (some .int) (pureP (opF f r nt 0) (sa σ f)) 5 [some (vR (8, 0, 0)), some (vI (nI r)), some (vI (1 : Int32)), some (vI (0 : Int32)), some (vI (nI n))] [] (sa σ f) := by
  intro k
  induction k with
  | zero =>
    intro n hk hd
    refine g_blk (pc' := 13) (loc' := [some (vR (8, 0, 0)), some (vI (nI r)), some (vI (1 : Int32)), some (vI (0 : Int32)), some (vI (nI n))]) (st' := [vI (f 3), vI (nI n)]) (σ' := sa σ f) fl5_ok [(5, .iload 4), (7, .aload_n 0), (8, .getfield 7), (11, .iconst 3), (12, .iaload)] (by decide +kernel) rfl rfl ?_
    refine g_icmp_ge (off := 40) (tgt := 53) (by decide +kernel) (by decide) (fun zc13 => ?_) (fun zc13 => ?_)
    · rw [hnt, nI_leI (by omega) (by omega)] at zc13
      refine g_blk (pc' := 54) (loc' := [some (vR (8, 0, 0)), some (vI (nI r)), some (vI (1 : Int32)), some (vI (0 : Int32)), some (vI (nI n))]) (st' := [vI (1 : Int32)]) (σ' := sa σ f) fl5_ok [(53, .iload_n 2)] (by decide +kernel) rfl rfl ?_
      refine g_if_eq (off := 8) (tgt := 62) (by decide +kernel) (by decide) (fun zc54 => ?_) (fun zc54 => ?_)
      · exact absurd zc54 (by decide)
      · refine g_blk (pc' := 63) (loc' := [some (vR (8, 0, 0)), some (vI (nI r)), some (vI (1 : Int32)), some (vI (0 : Int32)), some (vI (nI n))]) (st' := [vI (-6 : Int32)]) (σ' := sa σ f) fl5_ok [(57, .bipush (-6)), (59, .goto 4)] (by decide +kernel) rfl rfl ?_
        exact g_iret (by decide +kernel) (by rw [← hd]; exact ⟨rfl, rfl⟩)
    · rw [hnt, nI_leI (by omega) (by omega)] at zc13
      exact absurd (by omega) zc13
  | succ k ih =>
    intro n hk hd
    refine g_blk (pc' := 13) (loc' := [some (vR (8, 0, 0)), some (vI (nI r)), some (vI (1 : Int32)), some (vI (0 : Int32)), some (vI (nI n))]) (st' := [vI (f 3), vI (nI n)]) (σ' := sa σ f) fl5_ok [(5, .iload 4), (7, .aload_n 0), (8, .getfield 7), (11, .iconst 3), (12, .iaload)] (by decide +kernel) rfl rfl ?_
    refine g_icmp_ge (off := 40) (tgt := 53) (by decide +kernel) (by decide) (fun zc13 => ?_) (fun zc13 => ?_)
    · rw [hnt, nI_leI (by omega) (by omega)] at zc13
      exact absurd zc13 (by omega)
    · rw [hnt, nI_leI (by omega) (by omega)] at zc13
      refine g_blk (pc' := 20) (loc' := [some (vR (8, 0, 0)), some (vI (nI r)), some (vI (1 : Int32)), some (vI (0 : Int32)), some (vI (nI n))]) (st' := [vI (1 : Int32), vI (nI n), vR (8, 0, 0)]) (σ' := sa σ f) fl5_ok [(16, .aload_n 0), (17, .iload 4), (19, .iconst 1)] (by decide +kernel) rfl rfl ?_
      refine g_callVp (8, 0, 0) [vI (nI n), vI (1 : Int32)] [] vl_RX5_65 mi_X5_ofTask (c_X5_ofTask l (r := n) (c := 1) rfl rfl (by omega) (by omega)) rfl rfl rfl rfl ⟨Nat.le_of_ble_eq_true rfl, Nat.le_of_ble_eq_true rfl⟩ rfl (Nat.le_of_ble_eq_true rfl) (by decide +kernel) ?_
      refine g_blk (pc' := 24) (loc' := [some (vR (8, 0, 0)), some (vI (nI r)), some (vI (1 : Int32)), some (vI (0 : Int32)), some (vI (nI n))]) (st' := [vI (nI r), vI (mk f n 1)]) (σ' := sa σ f) fl5_ok [(23, .iload_n 1)] (by decide +kernel) rfl rfl ?_
      refine g_icmp_ne (off := 23) (tgt := 47) (by decide +kernel) (by decide) (fun zc24 => ?_) (fun zc24 => ?_)
      · refine g_blk (pc' := 5) (loc' := [some (vR (8, 0, 0)), some (vI (nI r)), some (vI (1 : Int32)), some (vI (0 : Int32)), some (vI ((nI n) + (1 : Int32)))]) (st' := []) (σ' := sa σ f) fl5_ok [(47, .iinc 4 1), (50, .goto (-45))] (by decide +kernel) rfl rfl ?_
        rw [opF, if_pos zc24] at hd
        have hih := ih (n + 1) (by omega) hd
        rw [nI_1]
        exact hih
      · refine g_blk (pc' := 31) (loc' := [some (vR (8, 0, 0)), some (vI (nI r)), some (vI (1 : Int32)), some (vI (0 : Int32)), some (vI (nI n))]) (st' := [vI (3 : Int32), vI (nI n), vR (8, 0, 0)]) (σ' := sa σ f) fl5_ok [(27, .aload_n 0), (28, .iload 4), (30, .iconst 3)] (by decide +kernel) rfl rfl ?_
        refine g_callVp (8, 0, 0) [vI (nI n), vI (3 : Int32)] [] vl_RX5_65 mi_X5_ofTask (c_X5_ofTask l (r := n) (c := 3) rfl rfl (by omega) (by omega)) rfl rfl rfl rfl ⟨Nat.le_of_ble_eq_true rfl, Nat.le_of_ble_eq_true rfl⟩ rfl (Nat.le_of_ble_eq_true rfl) (by decide +kernel) ?_
        refine g_if_ne (off := 13) (tgt := 47) (by decide +kernel) (by decide) (fun zc34 => ?_) (fun zc34 => ?_)
        · refine g_blk (pc' := 5) (loc' := [some (vR (8, 0, 0)), some (vI (nI r)), some (vI (1 : Int32)), some (vI (0 : Int32)), some (vI ((nI n) + (1 : Int32)))]) (st' := []) (σ' := sa σ f) fl5_ok [(47, .iinc 4 1), (50, .goto (-45))] (by decide +kernel) rfl rfl ?_
          rw [opF, if_neg (not_not_intro zc24), if_pos zc34] at hd
          have hih := ih (n + 1) (by omega) hd
          rw [nI_1]
          exact hih
        · refine g_blk (pc' := 38) (loc' := [some (vR (8, 0, 0)), some (vI (nI r)), some (vI (1 : Int32)), some (vI (0 : Int32)), some (vI (nI n))]) (st' := [vI (1 : Int32)]) (σ' := sa σ f) fl5_ok [(37, .iload_n 2)] (by decide +kernel) rfl rfl ?_
          refine g_if_eq (off := 6) (tgt := 44) (by decide +kernel) (by decide) (fun zc38 => ?_) (fun zc38 => ?_)
          · exact absurd zc38 (by decide)
          · refine g_blk (pc' := 43) (loc' := [some (vR (8, 0, 0)), some (vI (nI r)), some (vI (1 : Int32)), some (vI (0 : Int32)), some (vI (nI n))]) (st' := [vI (nI n)]) (σ' := sa σ f) fl5_ok [(41, .iload 4)] (by decide +kernel) rfl rfl ?_
            exact g_iret (by decide +kernel) (by rw [← hd, opF, if_neg (not_not_intro zc24), if_neg (not_not_intro zc34)]; exact ⟨rfl, rfl⟩)
set_option maxHeartbeats 2000000 in
theorem c_X5_openOf1 (l : Launch) {σ : Sg} {f : Nat → Int32} {x : Int32} {r nt : Nat} (hx : x = nI r) (hr : r < 8) (hnt : f 3 = nI nt) (h12 : nt ≤ 12) : Con l 1 yX5_openOf cX5_openOf 5 (some .int) [vR (8, 0, 0), vI x, vI (1 : Int32)] (sa σ f) (pureP (opF f r nt 0) (sa σ f)) := by
  subst hx
  refine con_of pn_X5_openOf (Nat.le_of_ble_eq_true rfl) (fun hPK hok => ?_)
  show G l (Rm 1) RX5 cX5_openOf 5 (some .int) _ 0 [some (vR (8, 0, 0)), some (vI (nI r)), some (vI (1 : Int32)), none, none] [] (sa σ f)
  refine g_blk (pc' := 5) (loc' := [some (vR (8, 0, 0)), some (vI (nI r)), some (vI (1 : Int32)), some (vI (0 : Int32)), some (vI (0 : Int32))]) (st' := []) (σ' := sa σ f) fl5_ok [(0, .iconst 0), (1, .istore_n 3), (2, .iconst 0), (3, .istore 4)] (by decide +kernel) rfl rfl ?_
  exact lp_X5_openOf1 l hr hnt h12 nt 0 (by omega) rfl
set_option maxHeartbeats 2000000 in
theorem lp_X5_spread (l : Launch) {σ : Sg} {f : Nat → Int32} {pl : Int32} {nr nt : Nat} (hnr : f 1 = nI nr) (h8 : nr ≤ 8) (hnt : f 3 = nI nt) (h12 : nt ≤ 12) (hw : ∀ r, r < nr → ¬ mo f r 0 = 0) : ∀ (k r : Nat), r + k = nr → G l (Rm 2) RX5 cX5_spread 6 (some .int) (pureP (sprM f pl nt nr) (sa σ f)) 7 [some (vR (8, 0, 0)), some (vI pl), some (vI ((spM f pl nt r).1)), some (vI ((spM f pl nt r).2)), some (vI (nI r)), none] [] (sa σ f) := by
  intro k
  induction k with
  | zero =>
    intro r hk
    refine g_blk (pc' := 15) (loc' := [some (vR (8, 0, 0)), some (vI pl), some (vI ((spM f pl nt r).1)), some (vI ((spM f pl nt r).2)), some (vI (nI r)), none]) (st' := [vI (f 1), vI (nI r)]) (σ' := sa σ f) fl5_ok [(7, .iload 4), (9, .aload_n 0), (10, .getfield 7), (13, .iconst 1), (14, .iaload)] (by decide +kernel) rfl rfl ?_
    refine g_icmp_ge (off := 79) (tgt := 94) (by decide +kernel) (by decide) (fun zc15 => ?_) (fun zc15 => ?_)
    · rw [hnr, nI_leI (by omega) (by omega)] at zc15
      refine g_blk (pc' := 97) (loc' := [some (vR (8, 0, 0)), some (vI pl), some (vI ((spM f pl nt r).1)), some (vI ((spM f pl nt r).2)), some (vI (nI r)), none]) (st' := [vI (((spM f pl nt r).2) - ((spM f pl nt r).1))]) (σ' := sa σ f) fl5_ok [(94, .iload_n 3), (95, .iload_n 2), (96, .isub)] (by decide +kernel) rfl rfl ?_
      obtain rfl : r = nr := by omega
      exact g_iret (by decide +kernel) ⟨rfl, rfl⟩
    · rw [hnr, nI_leI (by omega) (by omega)] at zc15
      exact absurd (by omega) zc15
  | succ k ih =>
    intro r hk
    refine g_blk (pc' := 15) (loc' := [some (vR (8, 0, 0)), some (vI pl), some (vI ((spM f pl nt r).1)), some (vI ((spM f pl nt r).2)), some (vI (nI r)), none]) (st' := [vI (f 1), vI (nI r)]) (σ' := sa σ f) fl5_ok [(7, .iload 4), (9, .aload_n 0), (10, .getfield 7), (13, .iconst 1), (14, .iaload)] (by decide +kernel) rfl rfl ?_
    refine g_icmp_ge (off := 79) (tgt := 94) (by decide +kernel) (by decide) (fun zc15 => ?_) (fun zc15 => ?_)
    · rw [hnr, nI_leI (by omega) (by omega)] at zc15
      exact absurd zc15 (by omega)
    · rw [hnr, nI_leI (by omega) (by omega)] at zc15
      refine g_blk (pc' := 22) (loc' := [some (vR (8, 0, 0)), some (vI pl), some (vI ((spM f pl nt r).1)), some (vI ((spM f pl nt r).2)), some (vI (nI r)), none]) (st' := [vI pl, vI (1000 : Int32)]) (σ' := sa σ f) fl5_ok [(18, .sipush 1000), (21, .iload_n 1)] (by decide +kernel) rfl rfl ?_
      refine g_if_eq (off := 12) (tgt := 34) (by decide +kernel) (by decide) (fun zc22 => ?_) (fun zc22 => ?_)
      · refine g_blk (pc' := 38) (loc' := [some (vR (8, 0, 0)), some (vI pl), some (vI ((spM f pl nt r).1)), some (vI ((spM f pl nt r).2)), some (vI (nI r)), none]) (st' := [vI (1 : Int32), vI (nI r), vR (8, 0, 0), vI (1000 : Int32)]) (σ' := sa σ f) fl5_ok [(34, .aload_n 0), (35, .iload 4), (37, .iconst 1)] (by decide +kernel) rfl rfl ?_
        refine g_callVp (8, 0, 0) [vI (nI r), vI (1 : Int32)] [vI (1000 : Int32)] vl_RX5_44 mi_X5_of (c_X5_of l (r := r) (c := 1) rfl rfl (by omega) (by omega)) rfl rfl rfl rfl ⟨Nat.le_of_ble_eq_true rfl, Nat.le_of_ble_eq_true rfl⟩ rfl (Nat.le_of_ble_eq_true rfl) (by decide +kernel) ?_
        refine g_blk (pc' := 46) (loc' := [some (vR (8, 0, 0)), some (vI pl), some (vI ((spM f pl nt r).1)), some (vI ((spM f pl nt r).2)), some (vI (nI r)), none]) (st' := [vI (0 : Int32), vI (nI r), vR (8, 0, 0), vI ((1000 : Int32) * (mo f r 1))]) (σ' := sa σ f) fl5_ok [(41, .imul), (42, .aload_n 0), (43, .iload 4), (45, .iconst 0)] (by decide +kernel) rfl rfl ?_
        refine g_callVp (8, 0, 0) [vI (nI r), vI (0 : Int32)] [vI ((1000 : Int32) * (mo f r 1))] vl_RX5_44 mi_X5_of (c_X5_of l (r := r) (c := 0) rfl rfl (by omega) (by omega)) rfl rfl rfl rfl ⟨Nat.le_of_ble_eq_true rfl, Nat.le_of_ble_eq_true rfl⟩ rfl (Nat.le_of_ble_eq_true rfl) (by decide +kernel) ?_
        refine g_idiv (hy := hw r (by omega)) (hd := by decide +kernel) (k := ?_)
        refine g_blk (pc' := 54) (loc' := [some (vR (8, 0, 0)), some (vI pl), some (vI ((spM f pl nt r).1)), some (vI ((spM f pl nt r).2)), some (vI (nI r)), some (vI (((1000 : Int32) * (mo f r 1)) / (mo f r 0)))]) (st' := [vI (nI r)]) (σ' := sa σ f) fl5_ok [(50, .istore 5), (52, .iload 4)] (by decide +kernel) rfl rfl ?_
        refine g_if_eq (off := 9) (tgt := 63) (by decide +kernel) (by decide) (fun zc54 => ?_) (fun zc54 => ?_)
        · refine g_blk (pc' := 72) (loc' := [some (vR (8, 0, 0)), some (vI pl), some (vI (((1000 : Int32) * (mo f r 1)) / (mo f r 0))), some (vI ((spM f pl nt r).2)), some (vI (nI r)), some (vI (((1000 : Int32) * (mo f r 1)) / (mo f r 0)))]) (st' := [vI (nI r)]) (σ' := sa σ f) fl5_ok [(63, .iload 5), (65, .goto 4), (69, .istore_n 2), (70, .iload 4)] (by decide +kernel) rfl rfl ?_
          refine g_if_eq (off := 9) (tgt := 81) (by decide +kernel) (by decide) (fun zc72 => ?_) (fun zc72 => ?_)
          · refine g_blk (pc' := 7) (loc' := [some (vR (8, 0, 0)), some (vI pl), some (vI (((1000 : Int32) * (mo f r 1)) / (mo f r 0))), some (vI (((1000 : Int32) * (mo f r 1)) / (mo f r 0))), some (vI ((nI r) + (1 : Int32))), some (vI (((1000 : Int32) * (mo f r 1)) / (mo f r 0)))]) (st' := []) (σ' := sa σ f) fl5_ok [(81, .iload 5), (83, .goto 4), (87, .istore_n 3), (88, .iinc 4 1), (91, .goto (-84))] (by decide +kernel) rfl rfl ?_
            have hrt : rtM f pl nt r = ((1000 : Int32) * (mo f r 1)) / (mo f r 0) := by rw [rtM, if_pos zc22]
            rw [← hrt]
            have h1 : (spM f pl nt (r + 1)).1 = rtM f pl nt r := by
              show (if nI r = 0 then _ else _) = _
              rw [if_pos zc54]
            have h2 : (spM f pl nt (r + 1)).2 = rtM f pl nt r := by
              show (if nI r = 0 then _ else _) = _
              rw [if_pos zc72]
            try rw [← hrt]
            have hih := ih (r + 1) (by omega)
            rw [h1, h2] at hih
            rw [nI_1]
            exact g_sub (loc' := [some (vR (8, 0, 0)), some (vI pl), some (vI (rtM f pl nt r)), some (vI (rtM f pl nt r)), some (vI (nI (r + 1))), none]) ⟨Or.inr rfl, Or.inr rfl, Or.inr rfl, Or.inr rfl, Or.inr rfl, Or.inl rfl, trivial⟩ hih
          · refine g_blk (pc' := 78) (loc' := [some (vR (8, 0, 0)), some (vI pl), some (vI (((1000 : Int32) * (mo f r 1)) / (mo f r 0))), some (vI ((spM f pl nt r).2)), some (vI (nI r)), some (vI (((1000 : Int32) * (mo f r 1)) / (mo f r 0)))]) (st' := [vI ((spM f pl nt r).2), vI (((1000 : Int32) * (mo f r 1)) / (mo f r 0))]) (σ' := sa σ f) fl5_ok [(75, .iload 5), (77, .iload_n 3)] (by decide +kernel) rfl rfl ?_
            refine g_icmp_le (off := 8) (tgt := 86) (by decide +kernel) (by decide) (fun zc78 => ?_) (fun zc78 => ?_)
            · refine g_blk (pc' := 7) (loc' := [some (vR (8, 0, 0)), some (vI pl), some (vI (((1000 : Int32) * (mo f r 1)) / (mo f r 0))), some (vI ((spM f pl nt r).2)), some (vI ((nI r) + (1 : Int32))), some (vI (((1000 : Int32) * (mo f r 1)) / (mo f r 0)))]) (st' := []) (σ' := sa σ f) fl5_ok [(86, .iload_n 3), (87, .istore_n 3), (88, .iinc 4 1), (91, .goto (-84))] (by decide +kernel) rfl rfl ?_
              have hrt : rtM f pl nt r = ((1000 : Int32) * (mo f r 1)) / (mo f r 0) := by rw [rtM, if_pos zc22]
              rw [← hrt]
              rw [← hrt] at zc78
              have h1 : (spM f pl nt (r + 1)).1 = rtM f pl nt r := by
                show (if nI r = 0 then _ else _) = _
                rw [if_pos zc54]
              have h2 : (spM f pl nt (r + 1)).2 = (spM f pl nt r).2 := by
                show (if nI r = 0 then _ else _) = _
                rw [if_neg zc72, if_pos zc78]
              try rw [← hrt]
              have hih := ih (r + 1) (by omega)
              rw [h1, h2] at hih
              rw [nI_1]
              exact g_sub (loc' := [some (vR (8, 0, 0)), some (vI pl), some (vI (rtM f pl nt r)), some (vI ((spM f pl nt r).2)), some (vI (nI (r + 1))), none]) ⟨Or.inr rfl, Or.inr rfl, Or.inr rfl, Or.inr rfl, Or.inr rfl, Or.inl rfl, trivial⟩ hih
            · refine g_blk (pc' := 7) (loc' := [some (vR (8, 0, 0)), some (vI pl), some (vI (((1000 : Int32) * (mo f r 1)) / (mo f r 0))), some (vI (((1000 : Int32) * (mo f r 1)) / (mo f r 0))), some (vI ((nI r) + (1 : Int32))), some (vI (((1000 : Int32) * (mo f r 1)) / (mo f r 0)))]) (st' := []) (σ' := sa σ f) fl5_ok [(81, .iload 5), (83, .goto 4), (87, .istore_n 3), (88, .iinc 4 1), (91, .goto (-84))] (by decide +kernel) rfl rfl ?_
              have hrt : rtM f pl nt r = ((1000 : Int32) * (mo f r 1)) / (mo f r 0) := by rw [rtM, if_pos zc22]
              rw [← hrt]
              rw [← hrt] at zc78
              have h1 : (spM f pl nt (r + 1)).1 = rtM f pl nt r := by
                show (if nI r = 0 then _ else _) = _
                rw [if_pos zc54]
              have h2 : (spM f pl nt (r + 1)).2 = rtM f pl nt r := by
                show (if nI r = 0 then _ else _) = _
                rw [if_neg zc72, if_neg zc78]
              try rw [← hrt]
              have hih := ih (r + 1) (by omega)
              rw [h1, h2] at hih
              rw [nI_1]
              exact g_sub (loc' := [some (vR (8, 0, 0)), some (vI pl), some (vI (rtM f pl nt r)), some (vI (rtM f pl nt r)), some (vI (nI (r + 1))), none]) ⟨Or.inr rfl, Or.inr rfl, Or.inr rfl, Or.inr rfl, Or.inr rfl, Or.inl rfl, trivial⟩ hih
        · refine g_blk (pc' := 60) (loc' := [some (vR (8, 0, 0)), some (vI pl), some (vI ((spM f pl nt r).1)), some (vI ((spM f pl nt r).2)), some (vI (nI r)), some (vI (((1000 : Int32) * (mo f r 1)) / (mo f r 0)))]) (st' := [vI ((spM f pl nt r).1), vI (((1000 : Int32) * (mo f r 1)) / (mo f r 0))]) (σ' := sa σ f) fl5_ok [(57, .iload 5), (59, .iload_n 2)] (by decide +kernel) rfl rfl ?_
          refine g_icmp_ge (off := 8) (tgt := 68) (by decide +kernel) (by decide) (fun zc60 => ?_) (fun zc60 => ?_)
          · refine g_blk (pc' := 72) (loc' := [some (vR (8, 0, 0)), some (vI pl), some (vI ((spM f pl nt r).1)), some (vI ((spM f pl nt r).2)), some (vI (nI r)), some (vI (((1000 : Int32) * (mo f r 1)) / (mo f r 0)))]) (st' := [vI (nI r)]) (σ' := sa σ f) fl5_ok [(68, .iload_n 2), (69, .istore_n 2), (70, .iload 4)] (by decide +kernel) rfl rfl ?_
            refine g_if_eq (off := 9) (tgt := 81) (by decide +kernel) (by decide) (fun zc72 => ?_) (fun zc72 => ?_)
            · refine g_blk (pc' := 7) (loc' := [some (vR (8, 0, 0)), some (vI pl), some (vI ((spM f pl nt r).1)), some (vI (((1000 : Int32) * (mo f r 1)) / (mo f r 0))), some (vI ((nI r) + (1 : Int32))), some (vI (((1000 : Int32) * (mo f r 1)) / (mo f r 0)))]) (st' := []) (σ' := sa σ f) fl5_ok [(81, .iload 5), (83, .goto 4), (87, .istore_n 3), (88, .iinc 4 1), (91, .goto (-84))] (by decide +kernel) rfl rfl ?_
              have hrt : rtM f pl nt r = ((1000 : Int32) * (mo f r 1)) / (mo f r 0) := by rw [rtM, if_pos zc22]
              rw [← hrt]
              rw [← hrt] at zc60
              have h1 : (spM f pl nt (r + 1)).1 = (spM f pl nt r).1 := by
                show (if nI r = 0 then _ else _) = _
                rw [if_neg zc54, if_pos zc60]
              have h2 : (spM f pl nt (r + 1)).2 = rtM f pl nt r := by
                show (if nI r = 0 then _ else _) = _
                rw [if_pos zc72]
              try rw [← hrt]
              have hih := ih (r + 1) (by omega)
              rw [h1, h2] at hih
              rw [nI_1]
              exact g_sub (loc' := [some (vR (8, 0, 0)), some (vI pl), some (vI ((spM f pl nt r).1)), some (vI (rtM f pl nt r)), some (vI (nI (r + 1))), none]) ⟨Or.inr rfl, Or.inr rfl, Or.inr rfl, Or.inr rfl, Or.inr rfl, Or.inl rfl, trivial⟩ hih
            · refine g_blk (pc' := 78) (loc' := [some (vR (8, 0, 0)), some (vI pl), some (vI ((spM f pl nt r).1)), some (vI ((spM f pl nt r).2)), some (vI (nI r)), some (vI (((1000 : Int32) * (mo f r 1)) / (mo f r 0)))]) (st' := [vI ((spM f pl nt r).2), vI (((1000 : Int32) * (mo f r 1)) / (mo f r 0))]) (σ' := sa σ f) fl5_ok [(75, .iload 5), (77, .iload_n 3)] (by decide +kernel) rfl rfl ?_
              refine g_icmp_le (off := 8) (tgt := 86) (by decide +kernel) (by decide) (fun zc78 => ?_) (fun zc78 => ?_)
              · refine g_blk (pc' := 7) (loc' := [some (vR (8, 0, 0)), some (vI pl), some (vI ((spM f pl nt r).1)), some (vI ((spM f pl nt r).2)), some (vI ((nI r) + (1 : Int32))), some (vI (((1000 : Int32) * (mo f r 1)) / (mo f r 0)))]) (st' := []) (σ' := sa σ f) fl5_ok [(86, .iload_n 3), (87, .istore_n 3), (88, .iinc 4 1), (91, .goto (-84))] (by decide +kernel) rfl rfl ?_
                have hrt : rtM f pl nt r = ((1000 : Int32) * (mo f r 1)) / (mo f r 0) := by rw [rtM, if_pos zc22]
                rw [← hrt]
                rw [← hrt] at zc60
                rw [← hrt] at zc78
                have h1 : (spM f pl nt (r + 1)).1 = (spM f pl nt r).1 := by
                  show (if nI r = 0 then _ else _) = _
                  rw [if_neg zc54, if_pos zc60]
                have h2 : (spM f pl nt (r + 1)).2 = (spM f pl nt r).2 := by
                  show (if nI r = 0 then _ else _) = _
                  rw [if_neg zc72, if_pos zc78]
                try rw [← hrt]
                have hih := ih (r + 1) (by omega)
                rw [h1, h2] at hih
                rw [nI_1]
                exact g_sub (loc' := [some (vR (8, 0, 0)), some (vI pl), some (vI ((spM f pl nt r).1)), some (vI ((spM f pl nt r).2)), some (vI (nI (r + 1))), none]) ⟨Or.inr rfl, Or.inr rfl, Or.inr rfl, Or.inr rfl, Or.inr rfl, Or.inl rfl, trivial⟩ hih
              · refine g_blk (pc' := 7) (loc' := [some (vR (8, 0, 0)), some (vI pl), some (vI ((spM f pl nt r).1)), some (vI (((1000 : Int32) * (mo f r 1)) / (mo f r 0))), some (vI ((nI r) + (1 : Int32))), some (vI (((1000 : Int32) * (mo f r 1)) / (mo f r 0)))]) (st' := []) (σ' := sa σ f) fl5_ok [(81, .iload 5), (83, .goto 4), (87, .istore_n 3), (88, .iinc 4 1), (91, .goto (-84))] (by decide +kernel) rfl rfl ?_
                have hrt : rtM f pl nt r = ((1000 : Int32) * (mo f r 1)) / (mo f r 0) := by rw [rtM, if_pos zc22]
                rw [← hrt]
                rw [← hrt] at zc60
                rw [← hrt] at zc78
                have h1 : (spM f pl nt (r + 1)).1 = (spM f pl nt r).1 := by
                  show (if nI r = 0 then _ else _) = _
                  rw [if_neg zc54, if_pos zc60]
                have h2 : (spM f pl nt (r + 1)).2 = rtM f pl nt r := by
                  show (if nI r = 0 then _ else _) = _
                  rw [if_neg zc72, if_neg zc78]
                try rw [← hrt]
                have hih := ih (r + 1) (by omega)
                rw [h1, h2] at hih
                rw [nI_1]
                exact g_sub (loc' := [some (vR (8, 0, 0)), some (vI pl), some (vI ((spM f pl nt r).1)), some (vI (rtM f pl nt r)), some (vI (nI (r + 1))), none]) ⟨Or.inr rfl, Or.inr rfl, Or.inr rfl, Or.inr rfl, Or.inr rfl, Or.inl rfl, trivial⟩ hih
          · refine g_blk (pc' := 72) (loc' := [some (vR (8, 0, 0)), some (vI pl), some (vI (((1000 : Int32) * (mo f r 1)) / (mo f r 0))), some (vI ((spM f pl nt r).2)), some (vI (nI r)), some (vI (((1000 : Int32) * (mo f r 1)) / (mo f r 0)))]) (st' := [vI (nI r)]) (σ' := sa σ f) fl5_ok [(63, .iload 5), (65, .goto 4), (69, .istore_n 2), (70, .iload 4)] (by decide +kernel) rfl rfl ?_
            refine g_if_eq (off := 9) (tgt := 81) (by decide +kernel) (by decide) (fun zc72 => ?_) (fun zc72 => ?_)
            · refine g_blk (pc' := 7) (loc' := [some (vR (8, 0, 0)), some (vI pl), some (vI (((1000 : Int32) * (mo f r 1)) / (mo f r 0))), some (vI (((1000 : Int32) * (mo f r 1)) / (mo f r 0))), some (vI ((nI r) + (1 : Int32))), some (vI (((1000 : Int32) * (mo f r 1)) / (mo f r 0)))]) (st' := []) (σ' := sa σ f) fl5_ok [(81, .iload 5), (83, .goto 4), (87, .istore_n 3), (88, .iinc 4 1), (91, .goto (-84))] (by decide +kernel) rfl rfl ?_
              have hrt : rtM f pl nt r = ((1000 : Int32) * (mo f r 1)) / (mo f r 0) := by rw [rtM, if_pos zc22]
              rw [← hrt]
              rw [← hrt] at zc60
              have h1 : (spM f pl nt (r + 1)).1 = rtM f pl nt r := by
                show (if nI r = 0 then _ else _) = _
                rw [if_neg zc54, if_neg zc60]
              have h2 : (spM f pl nt (r + 1)).2 = rtM f pl nt r := by
                show (if nI r = 0 then _ else _) = _
                rw [if_pos zc72]
              try rw [← hrt]
              have hih := ih (r + 1) (by omega)
              rw [h1, h2] at hih
              rw [nI_1]
              exact g_sub (loc' := [some (vR (8, 0, 0)), some (vI pl), some (vI (rtM f pl nt r)), some (vI (rtM f pl nt r)), some (vI (nI (r + 1))), none]) ⟨Or.inr rfl, Or.inr rfl, Or.inr rfl, Or.inr rfl, Or.inr rfl, Or.inl rfl, trivial⟩ hih
            · refine g_blk (pc' := 78) (loc' := [some (vR (8, 0, 0)), some (vI pl), some (vI (((1000 : Int32) * (mo f r 1)) / (mo f r 0))), some (vI ((spM f pl nt r).2)), some (vI (nI r)), some (vI (((1000 : Int32) * (mo f r 1)) / (mo f r 0)))]) (st' := [vI ((spM f pl nt r).2), vI (((1000 : Int32) * (mo f r 1)) / (mo f r 0))]) (σ' := sa σ f) fl5_ok [(75, .iload 5), (77, .iload_n 3)] (by decide +kernel) rfl rfl ?_
              refine g_icmp_le (off := 8) (tgt := 86) (by decide +kernel) (by decide) (fun zc78 => ?_) (fun zc78 => ?_)
              · refine g_blk (pc' := 7) (loc' := [some (vR (8, 0, 0)), some (vI pl), some (vI (((1000 : Int32) * (mo f r 1)) / (mo f r 0))), some (vI ((spM f pl nt r).2)), some (vI ((nI r) + (1 : Int32))), some (vI (((1000 : Int32) * (mo f r 1)) / (mo f r 0)))]) (st' := []) (σ' := sa σ f) fl5_ok [(86, .iload_n 3), (87, .istore_n 3), (88, .iinc 4 1), (91, .goto (-84))] (by decide +kernel) rfl rfl ?_
                have hrt : rtM f pl nt r = ((1000 : Int32) * (mo f r 1)) / (mo f r 0) := by rw [rtM, if_pos zc22]
                rw [← hrt]
                rw [← hrt] at zc60
                rw [← hrt] at zc78
                have h1 : (spM f pl nt (r + 1)).1 = rtM f pl nt r := by
                  show (if nI r = 0 then _ else _) = _
                  rw [if_neg zc54, if_neg zc60]
                have h2 : (spM f pl nt (r + 1)).2 = (spM f pl nt r).2 := by
                  show (if nI r = 0 then _ else _) = _
                  rw [if_neg zc72, if_pos zc78]
                try rw [← hrt]
                have hih := ih (r + 1) (by omega)
                rw [h1, h2] at hih
                rw [nI_1]
                exact g_sub (loc' := [some (vR (8, 0, 0)), some (vI pl), some (vI (rtM f pl nt r)), some (vI ((spM f pl nt r).2)), some (vI (nI (r + 1))), none]) ⟨Or.inr rfl, Or.inr rfl, Or.inr rfl, Or.inr rfl, Or.inr rfl, Or.inl rfl, trivial⟩ hih
              · refine g_blk (pc' := 7) (loc' := [some (vR (8, 0, 0)), some (vI pl), some (vI (((1000 : Int32) * (mo f r 1)) / (mo f r 0))), some (vI (((1000 : Int32) * (mo f r 1)) / (mo f r 0))), some (vI ((nI r) + (1 : Int32))), some (vI (((1000 : Int32) * (mo f r 1)) / (mo f r 0)))]) (st' := []) (σ' := sa σ f) fl5_ok [(81, .iload 5), (83, .goto 4), (87, .istore_n 3), (88, .iinc 4 1), (91, .goto (-84))] (by decide +kernel) rfl rfl ?_
                have hrt : rtM f pl nt r = ((1000 : Int32) * (mo f r 1)) / (mo f r 0) := by rw [rtM, if_pos zc22]
                rw [← hrt]
                rw [← hrt] at zc60
                rw [← hrt] at zc78
                have h1 : (spM f pl nt (r + 1)).1 = rtM f pl nt r := by
                  show (if nI r = 0 then _ else _) = _
                  rw [if_neg zc54, if_neg zc60]
                have h2 : (spM f pl nt (r + 1)).2 = rtM f pl nt r := by
                  show (if nI r = 0 then _ else _) = _
                  rw [if_neg zc72, if_neg zc78]
                try rw [← hrt]
                have hih := ih (r + 1) (by omega)
                rw [h1, h2] at hih
                rw [nI_1]
                exact g_sub (loc' := [some (vR (8, 0, 0)), some (vI pl), some (vI (rtM f pl nt r)), some (vI (rtM f pl nt r)), some (vI (nI (r + 1))), none]) ⟨Or.inr rfl, Or.inr rfl, Or.inr rfl, Or.inr rfl, Or.inr rfl, Or.inl rfl, trivial⟩ hih
      · refine g_blk (pc' := 28) (loc' := [some (vR (8, 0, 0)), some (vI pl), some (vI ((spM f pl nt r).1)), some (vI ((spM f pl nt r).2)), some (vI (nI r)), none]) (st' := [vI (nI r), vR (8, 0, 0), vI (1000 : Int32)]) (σ' := sa σ f) fl5_ok [(25, .aload_n 0), (26, .iload 4)] (by decide +kernel) rfl rfl ?_
        refine g_callVp (8, 0, 0) [vI (nI r)] [vI (1000 : Int32)] vl_RX5_71 mi_X5_loadOf (c_X5_loadOf l (r := r) rfl (by omega) hnt (by omega)) rfl rfl rfl rfl ⟨Nat.le_of_ble_eq_true rfl, Nat.le_of_ble_eq_true rfl⟩ rfl (Nat.le_of_ble_eq_true rfl) (by decide +kernel) ?_
        refine g_blk (pc' := 46) (loc' := [some (vR (8, 0, 0)), some (vI pl), some (vI ((spM f pl nt r).1)), some (vI ((spM f pl nt r).2)), some (vI (nI r)), none]) (st' := [vI (0 : Int32), vI (nI r), vR (8, 0, 0), vI ((1000 : Int32) * (lm f r nt))]) (σ' := sa σ f) fl5_ok [(31, .goto 10), (41, .imul), (42, .aload_n 0), (43, .iload 4), (45, .iconst 0)] (by decide +kernel) rfl rfl ?_
        refine g_callVp (8, 0, 0) [vI (nI r), vI (0 : Int32)] [vI ((1000 : Int32) * (lm f r nt))] vl_RX5_44 mi_X5_of (c_X5_of l (r := r) (c := 0) rfl rfl (by omega) (by omega)) rfl rfl rfl rfl ⟨Nat.le_of_ble_eq_true rfl, Nat.le_of_ble_eq_true rfl⟩ rfl (Nat.le_of_ble_eq_true rfl) (by decide +kernel) ?_
        refine g_idiv (hy := hw r (by omega)) (hd := by decide +kernel) (k := ?_)
        refine g_blk (pc' := 54) (loc' := [some (vR (8, 0, 0)), some (vI pl), some (vI ((spM f pl nt r).1)), some (vI ((spM f pl nt r).2)), some (vI (nI r)), some (vI (((1000 : Int32) * (lm f r nt)) / (mo f r 0)))]) (st' := [vI (nI r)]) (σ' := sa σ f) fl5_ok [(50, .istore 5), (52, .iload 4)] (by decide +kernel) rfl rfl ?_
        refine g_if_eq (off := 9) (tgt := 63) (by decide +kernel) (by decide) (fun zc54 => ?_) (fun zc54 => ?_)
        · refine g_blk (pc' := 72) (loc' := [some (vR (8, 0, 0)), some (vI pl), some (vI (((1000 : Int32) * (lm f r nt)) / (mo f r 0))), some (vI ((spM f pl nt r).2)), some (vI (nI r)), some (vI (((1000 : Int32) * (lm f r nt)) / (mo f r 0)))]) (st' := [vI (nI r)]) (σ' := sa σ f) fl5_ok [(63, .iload 5), (65, .goto 4), (69, .istore_n 2), (70, .iload 4)] (by decide +kernel) rfl rfl ?_
          refine g_if_eq (off := 9) (tgt := 81) (by decide +kernel) (by decide) (fun zc72 => ?_) (fun zc72 => ?_)
          · refine g_blk (pc' := 7) (loc' := [some (vR (8, 0, 0)), some (vI pl), some (vI (((1000 : Int32) * (lm f r nt)) / (mo f r 0))), some (vI (((1000 : Int32) * (lm f r nt)) / (mo f r 0))), some (vI ((nI r) + (1 : Int32))), some (vI (((1000 : Int32) * (lm f r nt)) / (mo f r 0)))]) (st' := []) (σ' := sa σ f) fl5_ok [(81, .iload 5), (83, .goto 4), (87, .istore_n 3), (88, .iinc 4 1), (91, .goto (-84))] (by decide +kernel) rfl rfl ?_
            have hrt : rtM f pl nt r = ((1000 : Int32) * (lm f r nt)) / (mo f r 0) := by rw [rtM, if_neg zc22]
            rw [← hrt]
            have h1 : (spM f pl nt (r + 1)).1 = rtM f pl nt r := by
              show (if nI r = 0 then _ else _) = _
              rw [if_pos zc54]
            have h2 : (spM f pl nt (r + 1)).2 = rtM f pl nt r := by
              show (if nI r = 0 then _ else _) = _
              rw [if_pos zc72]
            try rw [← hrt]
            have hih := ih (r + 1) (by omega)
            rw [h1, h2] at hih
            rw [nI_1]
            exact g_sub (loc' := [some (vR (8, 0, 0)), some (vI pl), some (vI (rtM f pl nt r)), some (vI (rtM f pl nt r)), some (vI (nI (r + 1))), none]) ⟨Or.inr rfl, Or.inr rfl, Or.inr rfl, Or.inr rfl, Or.inr rfl, Or.inl rfl, trivial⟩ hih
          · refine g_blk (pc' := 78) (loc' := [some (vR (8, 0, 0)), some (vI pl), some (vI (((1000 : Int32) * (lm f r nt)) / (mo f r 0))), some (vI ((spM f pl nt r).2)), some (vI (nI r)), some (vI (((1000 : Int32) * (lm f r nt)) / (mo f r 0)))]) (st' := [vI ((spM f pl nt r).2), vI (((1000 : Int32) * (lm f r nt)) / (mo f r 0))]) (σ' := sa σ f) fl5_ok [(75, .iload 5), (77, .iload_n 3)] (by decide +kernel) rfl rfl ?_
            refine g_icmp_le (off := 8) (tgt := 86) (by decide +kernel) (by decide) (fun zc78 => ?_) (fun zc78 => ?_)
            · refine g_blk (pc' := 7) (loc' := [some (vR (8, 0, 0)), some (vI pl), some (vI (((1000 : Int32) * (lm f r nt)) / (mo f r 0))), some (vI ((spM f pl nt r).2)), some (vI ((nI r) + (1 : Int32))), some (vI (((1000 : Int32) * (lm f r nt)) / (mo f r 0)))]) (st' := []) (σ' := sa σ f) fl5_ok [(86, .iload_n 3), (87, .istore_n 3), (88, .iinc 4 1), (91, .goto (-84))] (by decide +kernel) rfl rfl ?_
              have hrt : rtM f pl nt r = ((1000 : Int32) * (lm f r nt)) / (mo f r 0) := by rw [rtM, if_neg zc22]
              rw [← hrt]
              rw [← hrt] at zc78
              have h1 : (spM f pl nt (r + 1)).1 = rtM f pl nt r := by
                show (if nI r = 0 then _ else _) = _
                rw [if_pos zc54]
              have h2 : (spM f pl nt (r + 1)).2 = (spM f pl nt r).2 := by
                show (if nI r = 0 then _ else _) = _
                rw [if_neg zc72, if_pos zc78]
              try rw [← hrt]
              have hih := ih (r + 1) (by omega)
              rw [h1, h2] at hih
              rw [nI_1]
              exact g_sub (loc' := [some (vR (8, 0, 0)), some (vI pl), some (vI (rtM f pl nt r)), some (vI ((spM f pl nt r).2)), some (vI (nI (r + 1))), none]) ⟨Or.inr rfl, Or.inr rfl, Or.inr rfl, Or.inr rfl, Or.inr rfl, Or.inl rfl, trivial⟩ hih
            · refine g_blk (pc' := 7) (loc' := [some (vR (8, 0, 0)), some (vI pl), some (vI (((1000 : Int32) * (lm f r nt)) / (mo f r 0))), some (vI (((1000 : Int32) * (lm f r nt)) / (mo f r 0))), some (vI ((nI r) + (1 : Int32))), some (vI (((1000 : Int32) * (lm f r nt)) / (mo f r 0)))]) (st' := []) (σ' := sa σ f) fl5_ok [(81, .iload 5), (83, .goto 4), (87, .istore_n 3), (88, .iinc 4 1), (91, .goto (-84))] (by decide +kernel) rfl rfl ?_
              have hrt : rtM f pl nt r = ((1000 : Int32) * (lm f r nt)) / (mo f r 0) := by rw [rtM, if_neg zc22]
              rw [← hrt]
              rw [← hrt] at zc78
              have h1 : (spM f pl nt (r + 1)).1 = rtM f pl nt r := by
                show (if nI r = 0 then _ else _) = _
                rw [if_pos zc54]
              have h2 : (spM f pl nt (r + 1)).2 = rtM f pl nt r := by
                show (if nI r = 0 then _ else _) = _
                rw [if_neg zc72, if_neg zc78]
              try rw [← hrt]
              have hih := ih (r + 1) (by omega)
              rw [h1, h2] at hih
              rw [nI_1]
              exact g_sub (loc' := [some (vR (8, 0, 0)), some (vI pl), some (vI (rtM f pl nt r)), some (vI (rtM f pl nt r)), some (vI (nI (r + 1))), none]) ⟨Or.inr rfl, Or.inr rfl, Or.inr rfl, Or.inr rfl, Or.inr rfl, Or.inl rfl, trivial⟩ hih
        · refine g_blk (pc' := 60) (loc' := [some (vR (8, 0, 0)), some (vI pl), some (vI ((spM f pl nt r).1)), some (vI ((spM f pl nt r).2)), some (vI (nI r)), some (vI (((1000 : Int32) * (lm f r nt)) / (mo f r 0)))]) (st' := [vI ((spM f pl nt r).1), vI (((1000 : Int32) * (lm f r nt)) / (mo f r 0))]) (σ' := sa σ f) fl5_ok [(57, .iload 5), (59, .iload_n 2)] (by decide +kernel) rfl rfl ?_
          refine g_icmp_ge (off := 8) (tgt := 68) (by decide +kernel) (by decide) (fun zc60 => ?_) (fun zc60 => ?_)
          · refine g_blk (pc' := 72) (loc' := [some (vR (8, 0, 0)), some (vI pl), some (vI ((spM f pl nt r).1)), some (vI ((spM f pl nt r).2)), some (vI (nI r)), some (vI (((1000 : Int32) * (lm f r nt)) / (mo f r 0)))]) (st' := [vI (nI r)]) (σ' := sa σ f) fl5_ok [(68, .iload_n 2), (69, .istore_n 2), (70, .iload 4)] (by decide +kernel) rfl rfl ?_
            refine g_if_eq (off := 9) (tgt := 81) (by decide +kernel) (by decide) (fun zc72 => ?_) (fun zc72 => ?_)
            · refine g_blk (pc' := 7) (loc' := [some (vR (8, 0, 0)), some (vI pl), some (vI ((spM f pl nt r).1)), some (vI (((1000 : Int32) * (lm f r nt)) / (mo f r 0))), some (vI ((nI r) + (1 : Int32))), some (vI (((1000 : Int32) * (lm f r nt)) / (mo f r 0)))]) (st' := []) (σ' := sa σ f) fl5_ok [(81, .iload 5), (83, .goto 4), (87, .istore_n 3), (88, .iinc 4 1), (91, .goto (-84))] (by decide +kernel) rfl rfl ?_
              have hrt : rtM f pl nt r = ((1000 : Int32) * (lm f r nt)) / (mo f r 0) := by rw [rtM, if_neg zc22]
              rw [← hrt]
              rw [← hrt] at zc60
              have h1 : (spM f pl nt (r + 1)).1 = (spM f pl nt r).1 := by
                show (if nI r = 0 then _ else _) = _
                rw [if_neg zc54, if_pos zc60]
              have h2 : (spM f pl nt (r + 1)).2 = rtM f pl nt r := by
                show (if nI r = 0 then _ else _) = _
                rw [if_pos zc72]
              try rw [← hrt]
              have hih := ih (r + 1) (by omega)
              rw [h1, h2] at hih
              rw [nI_1]
              exact g_sub (loc' := [some (vR (8, 0, 0)), some (vI pl), some (vI ((spM f pl nt r).1)), some (vI (rtM f pl nt r)), some (vI (nI (r + 1))), none]) ⟨Or.inr rfl, Or.inr rfl, Or.inr rfl, Or.inr rfl, Or.inr rfl, Or.inl rfl, trivial⟩ hih
            · refine g_blk (pc' := 78) (loc' := [some (vR (8, 0, 0)), some (vI pl), some (vI ((spM f pl nt r).1)), some (vI ((spM f pl nt r).2)), some (vI (nI r)), some (vI (((1000 : Int32) * (lm f r nt)) / (mo f r 0)))]) (st' := [vI ((spM f pl nt r).2), vI (((1000 : Int32) * (lm f r nt)) / (mo f r 0))]) (σ' := sa σ f) fl5_ok [(75, .iload 5), (77, .iload_n 3)] (by decide +kernel) rfl rfl ?_
              refine g_icmp_le (off := 8) (tgt := 86) (by decide +kernel) (by decide) (fun zc78 => ?_) (fun zc78 => ?_)
              · refine g_blk (pc' := 7) (loc' := [some (vR (8, 0, 0)), some (vI pl), some (vI ((spM f pl nt r).1)), some (vI ((spM f pl nt r).2)), some (vI ((nI r) + (1 : Int32))), some (vI (((1000 : Int32) * (lm f r nt)) / (mo f r 0)))]) (st' := []) (σ' := sa σ f) fl5_ok [(86, .iload_n 3), (87, .istore_n 3), (88, .iinc 4 1), (91, .goto (-84))] (by decide +kernel) rfl rfl ?_
                have hrt : rtM f pl nt r = ((1000 : Int32) * (lm f r nt)) / (mo f r 0) := by rw [rtM, if_neg zc22]
                rw [← hrt]
                rw [← hrt] at zc60
                rw [← hrt] at zc78
                have h1 : (spM f pl nt (r + 1)).1 = (spM f pl nt r).1 := by
                  show (if nI r = 0 then _ else _) = _
                  rw [if_neg zc54, if_pos zc60]
                have h2 : (spM f pl nt (r + 1)).2 = (spM f pl nt r).2 := by
                  show (if nI r = 0 then _ else _) = _
                  rw [if_neg zc72, if_pos zc78]
                try rw [← hrt]
                have hih := ih (r + 1) (by omega)
                rw [h1, h2] at hih
                rw [nI_1]
                exact g_sub (loc' := [some (vR (8, 0, 0)), some (vI pl), some (vI ((spM f pl nt r).1)), some (vI ((spM f pl nt r).2)), some (vI (nI (r + 1))), none]) ⟨Or.inr rfl, Or.inr rfl, Or.inr rfl, Or.inr rfl, Or.inr rfl, Or.inl rfl, trivial⟩ hih
              · refine g_blk (pc' := 7) (loc' := [some (vR (8, 0, 0)), some (vI pl), some (vI ((spM f pl nt r).1)), some (vI (((1000 : Int32) * (lm f r nt)) / (mo f r 0))), some (vI ((nI r) + (1 : Int32))), some (vI (((1000 : Int32) * (lm f r nt)) / (mo f r 0)))]) (st' := []) (σ' := sa σ f) fl5_ok [(81, .iload 5), (83, .goto 4), (87, .istore_n 3), (88, .iinc 4 1), (91, .goto (-84))] (by decide +kernel) rfl rfl ?_
                have hrt : rtM f pl nt r = ((1000 : Int32) * (lm f r nt)) / (mo f r 0) := by rw [rtM, if_neg zc22]
                rw [← hrt]
                rw [← hrt] at zc60
                rw [← hrt] at zc78
                have h1 : (spM f pl nt (r + 1)).1 = (spM f pl nt r).1 := by
                  show (if nI r = 0 then _ else _) = _
                  rw [if_neg zc54, if_pos zc60]
                have h2 : (spM f pl nt (r + 1)).2 = rtM f pl nt r := by
                  show (if nI r = 0 then _ else _) = _
                  rw [if_neg zc72, if_neg zc78]
                try rw [← hrt]
                have hih := ih (r + 1) (by omega)
                rw [h1, h2] at hih
                rw [nI_1]
                exact g_sub (loc' := [some (vR (8, 0, 0)), some (vI pl), some (vI ((spM f pl nt r).1)), some (vI (rtM f pl nt r)), some (vI (nI (r + 1))), none]) ⟨Or.inr rfl, Or.inr rfl, Or.inr rfl, Or.inr rfl, Or.inr rfl, Or.inl rfl, trivial⟩ hih
          · refine g_blk (pc' := 72) (loc' := [some (vR (8, 0, 0)), some (vI pl), some (vI (((1000 : Int32) * (lm f r nt)) / (mo f r 0))), some (vI ((spM f pl nt r).2)), some (vI (nI r)), some (vI (((1000 : Int32) * (lm f r nt)) / (mo f r 0)))]) (st' := [vI (nI r)]) (σ' := sa σ f) fl5_ok [(63, .iload 5), (65, .goto 4), (69, .istore_n 2), (70, .iload 4)] (by decide +kernel) rfl rfl ?_
            refine g_if_eq (off := 9) (tgt := 81) (by decide +kernel) (by decide) (fun zc72 => ?_) (fun zc72 => ?_)
            · refine g_blk (pc' := 7) (loc' := [some (vR (8, 0, 0)), some (vI pl), some (vI (((1000 : Int32) * (lm f r nt)) / (mo f r 0))), some (vI (((1000 : Int32) * (lm f r nt)) / (mo f r 0))), some (vI ((nI r) + (1 : Int32))), some (vI (((1000 : Int32) * (lm f r nt)) / (mo f r 0)))]) (st' := []) (σ' := sa σ f) fl5_ok [(81, .iload 5), (83, .goto 4), (87, .istore_n 3), (88, .iinc 4 1), (91, .goto (-84))] (by decide +kernel) rfl rfl ?_
              have hrt : rtM f pl nt r = ((1000 : Int32) * (lm f r nt)) / (mo f r 0) := by rw [rtM, if_neg zc22]
              rw [← hrt]
              rw [← hrt] at zc60
              have h1 : (spM f pl nt (r + 1)).1 = rtM f pl nt r := by
                show (if nI r = 0 then _ else _) = _
                rw [if_neg zc54, if_neg zc60]
              have h2 : (spM f pl nt (r + 1)).2 = rtM f pl nt r := by
                show (if nI r = 0 then _ else _) = _
                rw [if_pos zc72]
              try rw [← hrt]
              have hih := ih (r + 1) (by omega)
              rw [h1, h2] at hih
              rw [nI_1]
              exact g_sub (loc' := [some (vR (8, 0, 0)), some (vI pl), some (vI (rtM f pl nt r)), some (vI (rtM f pl nt r)), some (vI (nI (r + 1))), none]) ⟨Or.inr rfl, Or.inr rfl, Or.inr rfl, Or.inr rfl, Or.inr rfl, Or.inl rfl, trivial⟩ hih
            · refine g_blk (pc' := 78) (loc' := [some (vR (8, 0, 0)), some (vI pl), some (vI (((1000 : Int32) * (lm f r nt)) / (mo f r 0))), some (vI ((spM f pl nt r).2)), some (vI (nI r)), some (vI (((1000 : Int32) * (lm f r nt)) / (mo f r 0)))]) (st' := [vI ((spM f pl nt r).2), vI (((1000 : Int32) * (lm f r nt)) / (mo f r 0))]) (σ' := sa σ f) fl5_ok [(75, .iload 5), (77, .iload_n 3)] (by decide +kernel) rfl rfl ?_
              refine g_icmp_le (off := 8) (tgt := 86) (by decide +kernel) (by decide) (fun zc78 => ?_) (fun zc78 => ?_)
              · refine g_blk (pc' := 7) (loc' := [some (vR (8, 0, 0)), some (vI pl), some (vI (((1000 : Int32) * (lm f r nt)) / (mo f r 0))), some (vI ((spM f pl nt r).2)), some (vI ((nI r) + (1 : Int32))), some (vI (((1000 : Int32) * (lm f r nt)) / (mo f r 0)))]) (st' := []) (σ' := sa σ f) fl5_ok [(86, .iload_n 3), (87, .istore_n 3), (88, .iinc 4 1), (91, .goto (-84))] (by decide +kernel) rfl rfl ?_
                have hrt : rtM f pl nt r = ((1000 : Int32) * (lm f r nt)) / (mo f r 0) := by rw [rtM, if_neg zc22]
                rw [← hrt]
                rw [← hrt] at zc60
                rw [← hrt] at zc78
                have h1 : (spM f pl nt (r + 1)).1 = rtM f pl nt r := by
                  show (if nI r = 0 then _ else _) = _
                  rw [if_neg zc54, if_neg zc60]
                have h2 : (spM f pl nt (r + 1)).2 = (spM f pl nt r).2 := by
                  show (if nI r = 0 then _ else _) = _
                  rw [if_neg zc72, if_pos zc78]
                try rw [← hrt]
                have hih := ih (r + 1) (by omega)
                rw [h1, h2] at hih
                rw [nI_1]
                exact g_sub (loc' := [some (vR (8, 0, 0)), some (vI pl), some (vI (rtM f pl nt r)), some (vI ((spM f pl nt r).2)), some (vI (nI (r + 1))), none]) ⟨Or.inr rfl, Or.inr rfl, Or.inr rfl, Or.inr rfl, Or.inr rfl, Or.inl rfl, trivial⟩ hih
              · refine g_blk (pc' := 7) (loc' := [some (vR (8, 0, 0)), some (vI pl), some (vI (((1000 : Int32) * (lm f r nt)) / (mo f r 0))), some (vI (((1000 : Int32) * (lm f r nt)) / (mo f r 0))), some (vI ((nI r) + (1 : Int32))), some (vI (((1000 : Int32) * (lm f r nt)) / (mo f r 0)))]) (st' := []) (σ' := sa σ f) fl5_ok [(81, .iload 5), (83, .goto 4), (87, .istore_n 3), (88, .iinc 4 1), (91, .goto (-84))] (by decide +kernel) rfl rfl ?_
                have hrt : rtM f pl nt r = ((1000 : Int32) * (lm f r nt)) / (mo f r 0) := by rw [rtM, if_neg zc22]
                rw [← hrt]
                rw [← hrt] at zc60
                rw [← hrt] at zc78
                have h1 : (spM f pl nt (r + 1)).1 = rtM f pl nt r := by
                  show (if nI r = 0 then _ else _) = _
                  rw [if_neg zc54, if_neg zc60]
                have h2 : (spM f pl nt (r + 1)).2 = rtM f pl nt r := by
                  show (if nI r = 0 then _ else _) = _
                  rw [if_neg zc72, if_neg zc78]
                try rw [← hrt]
                have hih := ih (r + 1) (by omega)
                rw [h1, h2] at hih
                rw [nI_1]
                exact g_sub (loc' := [some (vR (8, 0, 0)), some (vI pl), some (vI (rtM f pl nt r)), some (vI (rtM f pl nt r)), some (vI (nI (r + 1))), none]) ⟨Or.inr rfl, Or.inr rfl, Or.inr rfl, Or.inr rfl, Or.inr rfl, Or.inl rfl, trivial⟩ hih
set_option maxHeartbeats 2000000 in
theorem c_X5_spread (l : Launch) {σ : Sg} {f : Nat → Int32} {nr nt : Nat} (pl : Int32) (hnr : f 1 = nI nr) (h8 : nr ≤ 8) (hnt : f 3 = nI nt) (h12 : nt ≤ 12) (hw : ∀ r, r < nr → ¬ mo f r 0 = 0) : Con l 2 yX5_spread cX5_spread 6 (some .int) [vR (8, 0, 0), vI pl] (sa σ f) (pureP (sprM f pl nt nr) (sa σ f)) := by
  refine con_of pn_X5_spread (Nat.le_of_ble_eq_true rfl) (fun hPK hok => ?_)
  show G l (Rm 2) RX5 cX5_spread 6 (some .int) _ 0 [some (vR (8, 0, 0)), some (vI pl), none, none, none, none] [] (sa σ f)
  refine g_blk (pc' := 7) (loc' := [some (vR (8, 0, 0)), some (vI pl), some (vI (0 : Int32)), some (vI (0 : Int32)), some (vI (0 : Int32)), none]) (st' := []) (σ' := sa σ f) fl5_ok [(0, .iconst 0), (1, .istore_n 2), (2, .iconst 0), (3, .istore_n 3), (4, .iconst 0), (5, .istore 4)] (by decide +kernel) rfl rfl ?_
  exact lp_X5_spread l hnr h8 hnt h12 hw nr 0 (by omega)
end
