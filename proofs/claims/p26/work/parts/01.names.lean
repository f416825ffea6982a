-- ===== PART A: goes FIRST, ahead of the names: the tables' words, and 'selects' of the private methods out of them =====
/-- a private method of a class that the tables say can be made, by its rows of tables_1 -/
def lw_okq (q : MethodName × Nat) : Prop := (q.1.cls ≠ "java/lang/invoke/MethodHandle" ∧ q.1.cls ≠ "java/lang/invoke/VarHandle") ∧ Cond.instantiable q.1.cls q.2 ∈ tables_1 ∧ Cond.privateMethod q.1 ∈ tables_1 ∧ Cond.instanceMethod q.1 ∈ tables_1
theorem lw_p0 : lw_okq (⟨"CleaningRota$History", "dropOldest", "()V"⟩, 2) := ⟨⟨by decide +kernel, by decide +kernel⟩, List.mem_of_getElem? (i := 96) (by decide +kernel), List.mem_of_getElem? (i := 162) (by decide +kernel), List.mem_of_getElem? (i := 163) (by decide +kernel)⟩
theorem lw_p1 : lw_okq (⟨"CleaningRota$History", "stateAt", "(I)LCleaningRota$House;"⟩, 2) := ⟨⟨by decide +kernel, by decide +kernel⟩, List.mem_of_getElem? (i := 96) (by decide +kernel), List.mem_of_getElem? (i := 166) (by decide +kernel), List.mem_of_getElem? (i := 167) (by decide +kernel)⟩
theorem lw_p2 : lw_okq (⟨"CleaningRota$House", "spreadOf", "(ZIII)I"⟩, 9) := ⟨⟨by decide +kernel, by decide +kernel⟩, List.mem_of_getElem? (i := 17) (by decide +kernel), List.mem_of_getElem? (i := 252) (by decide +kernel), List.mem_of_getElem? (i := 253) (by decide +kernel)⟩
theorem lw_p3 : lw_okq (⟨"CleaningRota$House", "leastLoaded", "(I)I"⟩, 9) := ⟨⟨by decide +kernel, by decide +kernel⟩, List.mem_of_getElem? (i := 17) (by decide +kernel), List.mem_of_getElem? (i := 282) (by decide +kernel), List.mem_of_getElem? (i := 283) (by decide +kernel)⟩
theorem lw_p4 : lw_okq (⟨"CleaningRota$House", "goesAhead", "(II)Z"⟩, 9) := ⟨⟨by decide +kernel, by decide +kernel⟩, List.mem_of_getElem? (i := 17) (by decide +kernel), List.mem_of_getElem? (i := 291) (by decide +kernel), List.mem_of_getElem? (i := 292) (by decide +kernel)⟩
theorem lw_p5 : lw_okq (⟨"CleaningRota$House", "makeTasks", "()V"⟩, 9) := ⟨⟨by decide +kernel, by decide +kernel⟩, List.mem_of_getElem? (i := 17) (by decide +kernel), List.mem_of_getElem? (i := 295) (by decide +kernel), List.mem_of_getElem? (i := 296) (by decide +kernel)⟩
theorem lw_p6 : lw_okq (⟨"CleaningRota$House", "areaOfNextTask", "(I)I"⟩, 9) := ⟨⟨by decide +kernel, by decide +kernel⟩, List.mem_of_getElem? (i := 17) (by decide +kernel), List.mem_of_getElem? (i := 299) (by decide +kernel), List.mem_of_getElem? (i := 300) (by decide +kernel)⟩
theorem lw_p7 : lw_okq (⟨"CleaningRota$House", "effortOfTask", "(I)I"⟩, 9) := ⟨⟨by decide +kernel, by decide +kernel⟩, List.mem_of_getElem? (i := 17) (by decide +kernel), List.mem_of_getElem? (i := 303) (by decide +kernel), List.mem_of_getElem? (i := 304) (by decide +kernel)⟩
theorem lw_p8 : lw_okq (⟨"CleaningRota$House", "addTask", "(IIZ)V"⟩, 9) := ⟨⟨by decide +kernel, by decide +kernel⟩, List.mem_of_getElem? (i := 17) (by decide +kernel), List.mem_of_getElem? (i := 315) (by decide +kernel), List.mem_of_getElem? (i := 316) (by decide +kernel)⟩
theorem lw_p9 : lw_okq (⟨"CleaningRota$House", "giveTasks", "()V"⟩, 9) := ⟨⟨by decide +kernel, by decide +kernel⟩, List.mem_of_getElem? (i := 17) (by decide +kernel), List.mem_of_getElem? (i := 319) (by decide +kernel), List.mem_of_getElem? (i := 320) (by decide +kernel)⟩
theorem lw_p10 : lw_okq (⟨"CleaningRota$House", "hasTwinAhead", "(I)Z"⟩, 9) := ⟨⟨by decide +kernel, by decide +kernel⟩, List.mem_of_getElem? (i := 17) (by decide +kernel), List.mem_of_getElem? (i := 323) (by decide +kernel), List.mem_of_getElem? (i := 324) (by decide +kernel)⟩
theorem lw_p11 : lw_okq (⟨"CleaningRota$House", "isTwinOpen", "(I)Z"⟩, 9) := ⟨⟨by decide +kernel, by decide +kernel⟩, List.mem_of_getElem? (i := 17) (by decide +kernel), List.mem_of_getElem? (i := 370) (by decide +kernel), List.mem_of_getElem? (i := 371) (by decide +kernel)⟩
theorem lw_p12 : lw_okq (⟨"CleaningRota$House", "clean", "(I)V"⟩, 9) := ⟨⟨by decide +kernel, by decide +kernel⟩, List.mem_of_getElem? (i := 17) (by decide +kernel), List.mem_of_getElem? (i := 374) (by decide +kernel), List.mem_of_getElem? (i := 375) (by decide +kernel)⟩
theorem lw_p13 : lw_okq (⟨"CleaningRota$House", "dropSwapsWith", "(I)V"⟩, 9) := ⟨⟨by decide +kernel, by decide +kernel⟩, List.mem_of_getElem? (i := 17) (by decide +kernel), List.mem_of_getElem? (i := 378) (by decide +kernel), List.mem_of_getElem? (i := 379) (by decide +kernel)⟩
theorem lw_p14 : lw_okq (⟨"CleaningRota$House", "skip", "(I)V"⟩, 9) := ⟨⟨by decide +kernel, by decide +kernel⟩, List.mem_of_getElem? (i := 17) (by decide +kernel), List.mem_of_getElem? (i := 403) (by decide +kernel), List.mem_of_getElem? (i := 404) (by decide +kernel)⟩
theorem lw_p15 : lw_okq (⟨"CleaningRota$House", "decayPoints", "()V"⟩, 9) := ⟨⟨by decide +kernel, by decide +kernel⟩, List.mem_of_getElem? (i := 17) (by decide +kernel), List.mem_of_getElem? (i := 411) (by decide +kernel), List.mem_of_getElem? (i := 412) (by decide +kernel)⟩
def lw_privs_1 : List (MethodName × Nat) := [(⟨"CleaningRota$History", "dropOldest", "()V"⟩, 2), (⟨"CleaningRota$History", "stateAt", "(I)LCleaningRota$House;"⟩, 2), (⟨"CleaningRota$House", "spreadOf", "(ZIII)I"⟩, 9), (⟨"CleaningRota$House", "leastLoaded", "(I)I"⟩, 9), (⟨"CleaningRota$House", "goesAhead", "(II)Z"⟩, 9), (⟨"CleaningRota$House", "makeTasks", "()V"⟩, 9), (⟨"CleaningRota$House", "areaOfNextTask", "(I)I"⟩, 9), (⟨"CleaningRota$House", "effortOfTask", "(I)I"⟩, 9), (⟨"CleaningRota$House", "addTask", "(IIZ)V"⟩, 9), (⟨"CleaningRota$House", "giveTasks", "()V"⟩, 9), (⟨"CleaningRota$House", "hasTwinAhead", "(I)Z"⟩, 9), (⟨"CleaningRota$House", "isTwinOpen", "(I)Z"⟩, 9), (⟨"CleaningRota$House", "clean", "(I)V"⟩, 9), (⟨"CleaningRota$House", "dropSwapsWith", "(I)V"⟩, 9), (⟨"CleaningRota$House", "skip", "(I)V"⟩, 9), (⟨"CleaningRota$House", "decayPoints", "()V"⟩, 9)]
theorem lw_r1 : ∀ q ∈ lw_privs_1, lw_okq q := List.forall_mem_cons.mpr ⟨lw_p0, List.forall_mem_cons.mpr ⟨lw_p1, List.forall_mem_cons.mpr ⟨lw_p2, List.forall_mem_cons.mpr ⟨lw_p3, List.forall_mem_cons.mpr ⟨lw_p4, List.forall_mem_cons.mpr ⟨lw_p5, List.forall_mem_cons.mpr ⟨lw_p6, List.forall_mem_cons.mpr ⟨lw_p7, List.forall_mem_cons.mpr ⟨lw_p8, List.forall_mem_cons.mpr ⟨lw_p9, List.forall_mem_cons.mpr ⟨lw_p10, List.forall_mem_cons.mpr ⟨lw_p11, List.forall_mem_cons.mpr ⟨lw_p12, List.forall_mem_cons.mpr ⟨lw_p13, List.forall_mem_cons.mpr ⟨lw_p14, List.forall_mem_cons.mpr ⟨lw_p15, fun _ h => absurd h List.not_mem_nil⟩⟩⟩⟩⟩⟩⟩⟩⟩⟩⟩⟩⟩⟩⟩⟩
theorem lw_p16 : lw_okq (⟨"CleaningRota$House", "growDirt", "()V"⟩, 9) := ⟨⟨by decide +kernel, by decide +kernel⟩, List.mem_of_getElem? (i := 17) (by decide +kernel), List.mem_of_getElem? (i := 415) (by decide +kernel), List.mem_of_getElem? (i := 416) (by decide +kernel)⟩
theorem lw_p17 : lw_okq (⟨"CleaningRota$House", "gainOfExchange", "(II)I"⟩, 9) := ⟨⟨by decide +kernel, by decide +kernel⟩, List.mem_of_getElem? (i := 17) (by decide +kernel), List.mem_of_getElem? (i := 460) (by decide +kernel), List.mem_of_getElem? (i := 461) (by decide +kernel)⟩
theorem lw_p18 : lw_okq (⟨"CleaningRota$Pad", "endOfNumber", "(I)I"⟩, 3) := ⟨⟨by decide +kernel, by decide +kernel⟩, List.mem_of_getElem? (i := 113) (by decide +kernel), List.mem_of_getElem? (i := 534) (by decide +kernel), List.mem_of_getElem? (i := 535) (by decide +kernel)⟩
theorem lw_p19 : lw_okq (⟨"CleaningRota$Pad", "isDigitAt", "(I)Z"⟩, 3) := ⟨⟨by decide +kernel, by decide +kernel⟩, List.mem_of_getElem? (i := 113) (by decide +kernel), List.mem_of_getElem? (i := 538) (by decide +kernel), List.mem_of_getElem? (i := 539) (by decide +kernel)⟩
theorem lw_p20 : lw_okq (⟨"CleaningRota$Pad", "characterAt", "(I)I"⟩, 3) := ⟨⟨by decide +kernel, by decide +kernel⟩, List.mem_of_getElem? (i := 113) (by decide +kernel), List.mem_of_getElem? (i := 542) (by decide +kernel), List.mem_of_getElem? (i := 543) (by decide +kernel)⟩
theorem lw_p21 : lw_okq (⟨"CleaningRota$Pad", "numberIn", "(II)I"⟩, 3) := ⟨⟨by decide +kernel, by decide +kernel⟩, List.mem_of_getElem? (i := 113) (by decide +kernel), List.mem_of_getElem? (i := 546) (by decide +kernel), List.mem_of_getElem? (i := 547) (by decide +kernel)⟩
theorem lw_p22 : lw_okq (⟨"CleaningRota$Pad", "addPart", "(II)V"⟩, 3) := ⟨⟨by decide +kernel, by decide +kernel⟩, List.mem_of_getElem? (i := 113) (by decide +kernel), List.mem_of_getElem? (i := 550) (by decide +kernel), List.mem_of_getElem? (i := 551) (by decide +kernel)⟩
def lw_privs_2 : List (MethodName × Nat) := [(⟨"CleaningRota$House", "growDirt", "()V"⟩, 9), (⟨"CleaningRota$House", "gainOfExchange", "(II)I"⟩, 9), (⟨"CleaningRota$Pad", "endOfNumber", "(I)I"⟩, 3), (⟨"CleaningRota$Pad", "isDigitAt", "(I)Z"⟩, 3), (⟨"CleaningRota$Pad", "characterAt", "(I)I"⟩, 3), (⟨"CleaningRota$Pad", "numberIn", "(II)I"⟩, 3), (⟨"CleaningRota$Pad", "addPart", "(II)V"⟩, 3)]
theorem lw_r2 : ∀ q ∈ lw_privs_2, lw_okq q := List.forall_mem_cons.mpr ⟨lw_p16, List.forall_mem_cons.mpr ⟨lw_p17, List.forall_mem_cons.mpr ⟨lw_p18, List.forall_mem_cons.mpr ⟨lw_p19, List.forall_mem_cons.mpr ⟨lw_p20, List.forall_mem_cons.mpr ⟨lw_p21, List.forall_mem_cons.mpr ⟨lw_p22, fun _ h => absurd h List.not_mem_nil⟩⟩⟩⟩⟩⟩⟩
def lw_privs : List (MethodName × Nat) := lw_privs_1 ++ (lw_privs_2)
def lw_tbl : List Cond := k2_sels lw_privs ++ tables_1
theorem lw_privs_ok : ∀ q ∈ lw_privs, lw_okq q := by
  show ∀ q ∈ lw_privs_1 ++ (lw_privs_2), lw_okq q
  exact List.forall_mem_append.mpr ⟨lw_r1, lw_r2⟩
-- ===== end of PART A; then your names; then what follows =====
/-! ===== BEGIN words of one list among another's, by their places ===== -/
theorem goodIn_r {big : List Cond} (ws : List Cond) (ps : List Nat) (hp : ws = ps.filterMap (fun i => big[i]?)) (h : ws.all goodWord = true) : GoodIn big ws := by
  intro w hw
  have h1 := List.all_eq_true.mp h w hw
  rw [hp] at hw
  obtain ⟨i, -, hi⟩ := List.mem_filterMap.mp hw
  have hm : w ∈ big := by first | exact List.mem_of_getElem? hi | exact List.getElem?_mem hi
  exact ⟨hm, good_of_word h1⟩
theorem goodIn_app {big a b : List Cond} (ha : GoodIn big a) (hb : GoodIn big b) : GoodIn big (a ++ b) := fun w h => (List.mem_append.mp h).elim (ha w) (hb w)
theorem goodIn_ca {big a b : List Cond} {c : Cond} (ha : GoodIn big (c :: a)) (hb : GoodIn big b) : GoodIn big (c :: (a ++ b)) := fun w h => (List.mem_cons.mp h).elim (fun e => ha w (List.mem_cons.mpr (Or.inl e))) (fun h => (List.mem_append.mp h).elim (fun h => ha w (List.mem_cons.mpr (Or.inr h))) (hb w))
theorem goodIn_sub {big ws : List Cond} (hm : ∀ w ∈ ws, w ∈ big) (h : ws.all goodWord = true) : GoodIn big ws := fun w hw => ⟨hm w hw, good_of_word (List.all_eq_true.mp h w hw)⟩
/-! ===== END ===== -/

/-! ===== BEGIN printed: names, fields, word lists, decode rows ===== -/
def RX0 : String := "CleaningRota$History"
def TX0 : u_T := fun k => match k with
  | 0 => ("CleaningRota$History", "states", "[LCleaningRota$House;", true)
  | _ => ("CleaningRota$History", "kept", "I", false)
def tyX0 : Nat → FieldType := fun k => match k with
  | 0 => .array (.object "CleaningRota$House")
  | _ => .int
abbrev wsX00 : List Cond := u_ws RX0 TX0 2
theorem nmX0 : ∀ a, a < 2 → ∀ b, b < 2 → a ≠ b → (TX0 a).2.1 ≠ (TX0 b).2.1 := by decide +kernel
theorem tyX0_ok : ∀ k, k < 2 → parseFieldDescriptor (TX0 k).2.2.1 = some (tyX0 k) := by decide +kernel
abbrev cX0_init : ByteArray := prog_2_method_1_code
def yX0_init : MethodName := ⟨RX0, "<init>", "()V"⟩
abbrev cX0_keep : ByteArray := prog_2_method_2_code
def yX0_keep : MethodName := ⟨RX0, "keep", "(LCleaningRota$House;)V"⟩
abbrev cX0_restore : ByteArray := prog_2_method_3_code
def yX0_restore : MethodName := ⟨RX0, "restore", "(LCleaningRota$House;)V"⟩
abbrev cX0_stateAt : ByteArray := prog_2_method_4_code
def yX0_stateAt : MethodName := ⟨RX0, "stateAt", "(I)LCleaningRota$House;"⟩
abbrev cX0_dropOldest : ByteArray := prog_2_method_5_code
def yX0_dropOldest : MethodName := ⟨RX0, "dropOldest", "()V"⟩
def RX1 : String := "CleaningRota$House"
def TX1 : u_T := fun k => match k with
  | 0 => ("CleaningRota$House", "residents", "LCleaningRota$Table;", true)
  | 1 => ("CleaningRota$House", "areas", "LCleaningRota$Table;", true)
  | 2 => ("CleaningRota$House", "tasks", "LCleaningRota$Table;", true)
  | 3 => ("CleaningRota$House", "swaps", "LCleaningRota$Table;", true)
  | 4 => ("CleaningRota$House", "settings", "LCleaningRota$Table;", true)
  | 5 => ("CleaningRota$House", "week", "I", false)
  | 6 => ("CleaningRota$House", "isPlanned", "Z", false)
  | 7 => ("CleaningRota$House", "tasksDone", "I", false)
  | _ => ("CleaningRota$House", "tasksSkipped", "I", false)
def tyX1 : Nat → FieldType := fun k => match k with
  | 0 => .object "CleaningRota$Table"
  | 1 => .object "CleaningRota$Table"
  | 2 => .object "CleaningRota$Table"
  | 3 => .object "CleaningRota$Table"
  | 4 => .object "CleaningRota$Table"
  | 5 => .int
  | 6 => .boolean
  | 7 => .int
  | _ => .int
abbrev wsX10 : List Cond := u_ws RX1 TX1 9
theorem nmX1 : ∀ a, a < 9 → ∀ b, b < 9 → a ≠ b → (TX1 a).2.1 ≠ (TX1 b).2.1 := by decide +kernel
theorem tyX1_ok : ∀ k, k < 9 → parseFieldDescriptor (TX1 k).2.2.1 = some (tyX1 k) := by decide +kernel
abbrev cX1_init : ByteArray := prog_3_method_1_code
def yX1_init : MethodName := ⟨RX1, "<init>", "()V"⟩
abbrev cX1_copyFrom : ByteArray := prog_3_method_2_code
def yX1_copyFrom : MethodName := ⟨RX1, "copyFrom", "(LCleaningRota$House;)V"⟩
abbrev cX1_addResident : ByteArray := prog_3_method_3_code
def yX1_addResident : MethodName := ⟨RX1, "addResident", "(I)I"⟩
abbrev cX1_isAway : ByteArray := prog_3_method_4_code
def yX1_isAway : MethodName := ⟨RX1, "isAway", "(I)Z"⟩
abbrev cX1_loadOf : ByteArray := prog_3_method_5_code
def yX1_loadOf : MethodName := ⟨RX1, "loadOf", "(I)I"⟩
abbrev cX1_addArea : ByteArray := prog_3_method_6_code
def yX1_addArea : MethodName := ⟨RX1, "addArea", "(III)I"⟩
abbrev cX1_needsDeepClean : ByteArray := prog_3_method_7_code
def yX1_needsDeepClean : MethodName := ⟨RX1, "needsDeepClean", "(I)Z"⟩
abbrev cX1_isDue : ByteArray := prog_3_method_8_code
def yX1_isDue : MethodName := ⟨RX1, "isDue", "(I)Z"⟩
abbrev cX1_greatestDirt : ByteArray := prog_3_method_9_code
def yX1_greatestDirt : MethodName := ⟨RX1, "greatestDirt", "()I"⟩
abbrev cX1_clean : ByteArray := prog_3_method_10_code
def yX1_clean : MethodName := ⟨RX1, "clean", "(I)V"⟩
abbrev cX1_planWeek : ByteArray := prog_3_method_11_code
def yX1_planWeek : MethodName := ⟨RX1, "planWeek", "()I"⟩
abbrev cX1_makeTasks : ByteArray := prog_3_method_12_code
def yX1_makeTasks : MethodName := ⟨RX1, "makeTasks", "()V"⟩
abbrev cX1_areaOfNextTask : ByteArray := prog_3_method_13_code
def yX1_areaOfNextTask : MethodName := ⟨RX1, "areaOfNextTask", "(I)I"⟩
abbrev cX1_effortOfTask : ByteArray := prog_3_method_14_code
def yX1_effortOfTask : MethodName := ⟨RX1, "effortOfTask", "(I)I"⟩
abbrev cX1_addTask : ByteArray := prog_3_method_15_code
def yX1_addTask : MethodName := ⟨RX1, "addTask", "(IIZ)V"⟩
abbrev cX1_giveTasks : ByteArray := prog_3_method_16_code
def yX1_giveTasks : MethodName := ⟨RX1, "giveTasks", "()V"⟩
abbrev cX1_hasTwinAhead : ByteArray := prog_3_method_17_code
def yX1_hasTwinAhead : MethodName := ⟨RX1, "hasTwinAhead", "(I)Z"⟩
abbrev cX1_leastLoaded : ByteArray := prog_3_method_18_code
def yX1_leastLoaded : MethodName := ⟨RX1, "leastLoaded", "(I)I"⟩
abbrev cX1_goesAhead : ByteArray := prog_3_method_19_code
def yX1_goesAhead : MethodName := ⟨RX1, "goesAhead", "(II)Z"⟩
abbrev cX1_isOpen : ByteArray := prog_3_method_20_code
def yX1_isOpen : MethodName := ⟨RX1, "isOpen", "(I)Z"⟩
abbrev cX1_isOpenTaskOf : ByteArray := prog_3_method_21_code
def yX1_isOpenTaskOf : MethodName := ⟨RX1, "isOpenTaskOf", "(II)Z"⟩
abbrev cX1_countOpenTasks : ByteArray := prog_3_method_22_code
def yX1_countOpenTasks : MethodName := ⟨RX1, "countOpenTasks", "()I"⟩
abbrev cX1_countOpenDeepTasks : ByteArray := prog_3_method_23_code
def yX1_countOpenDeepTasks : MethodName := ⟨RX1, "countOpenDeepTasks", "()I"⟩
abbrev cX1_countOpenTasksOf : ByteArray := prog_3_method_24_code
def yX1_countOpenTasksOf : MethodName := ⟨RX1, "countOpenTasksOf", "(I)I"⟩
abbrev cX1_firstOpenTaskOf : ByteArray := prog_3_method_25_code
def yX1_firstOpenTaskOf : MethodName := ⟨RX1, "firstOpenTaskOf", "(I)I"⟩
abbrev cX1_finish : ByteArray := prog_3_method_26_code
def yX1_finish : MethodName := ⟨RX1, "finish", "(I)I"⟩
abbrev cX1_isTwinOpen : ByteArray := prog_3_method_27_code
def yX1_isTwinOpen : MethodName := ⟨RX1, "isTwinOpen", "(I)Z"⟩
abbrev cX1_finishFromTo : ByteArray := prog_3_method_28_code
def yX1_finishFromTo : MethodName := ⟨RX1, "finishFromTo", "(II)V"⟩
abbrev cX1_finishOpenTasks : ByteArray := prog_3_method_29_code
def yX1_finishOpenTasks : MethodName := ⟨RX1, "finishOpenTasks", "()V"⟩
abbrev cX1_payDebt : ByteArray := prog_3_method_30_code
def yX1_payDebt : MethodName := ⟨RX1, "payDebt", "(II)I"⟩
abbrev cX1_endWeek : ByteArray := prog_3_method_31_code
def yX1_endWeek : MethodName := ⟨RX1, "endWeek", "()I"⟩
abbrev cX1_skip : ByteArray := prog_3_method_32_code
def yX1_skip : MethodName := ⟨RX1, "skip", "(I)V"⟩
abbrev cX1_decayPoints : ByteArray := prog_3_method_33_code
def yX1_decayPoints : MethodName := ⟨RX1, "decayPoints", "()V"⟩
abbrev cX1_growDirt : ByteArray := prog_3_method_34_code
def yX1_growDirt : MethodName := ⟨RX1, "growDirt", "()V"⟩
abbrev cX1_canExchange : ByteArray := prog_3_method_35_code
def yX1_canExchange : MethodName := ⟨RX1, "canExchange", "(II)Z"⟩
abbrev cX1_isProposed : ByteArray := prog_3_method_36_code
def yX1_isProposed : MethodName := ⟨RX1, "isProposed", "(II)Z"⟩
abbrev cX1_addSwap : ByteArray := prog_3_method_37_code
def yX1_addSwap : MethodName := ⟨RX1, "addSwap", "(II)I"⟩
abbrev cX1_declineSwap : ByteArray := prog_3_method_38_code
def yX1_declineSwap : MethodName := ⟨RX1, "declineSwap", "(I)I"⟩
abbrev cX1_acceptSwap : ByteArray := prog_3_method_39_code
def yX1_acceptSwap : MethodName := ⟨RX1, "acceptSwap", "(I)I"⟩
abbrev cX1_gainOfExchange : ByteArray := prog_3_method_40_code
def yX1_gainOfExchange : MethodName := ⟨RX1, "gainOfExchange", "(II)I"⟩
abbrev cX1_dropSwapsWith : ByteArray := prog_3_method_41_code
def yX1_dropSwapsWith : MethodName := ⟨RX1, "dropSwapsWith", "(I)V"⟩
abbrev cX1_rateOf : ByteArray := prog_3_method_42_code
def yX1_rateOf : MethodName := ⟨RX1, "rateOf", "(II)I"⟩
abbrev cX1_spread : ByteArray := prog_3_method_43_code
def yX1_spread : MethodName := ⟨RX1, "spread", "()I"⟩
abbrev cX1_plannedSpread : ByteArray := prog_3_method_44_code
def yX1_plannedSpread : MethodName := ⟨RX1, "plannedSpread", "()I"⟩
abbrev cX1_spreadIfExchanged : ByteArray := prog_3_method_45_code
def yX1_spreadIfExchanged : MethodName := ⟨RX1, "spreadIfExchanged", "(II)I"⟩
abbrev cX1_spreadOf : ByteArray := prog_3_method_46_code
def yX1_spreadOf : MethodName := ⟨RX1, "spreadOf", "(ZIII)I"⟩
def RX2 : String := "CleaningRota$Pad"
def TX2 : u_T := fun k => match k with
  | 0 => ("CleaningRota$Pad", "characters", "[C", true)
  | 1 => ("CleaningRota$Pad", "length", "I", false)
  | _ => ("CleaningRota$Pad", "parts", "LCleaningRota$Table;", true)
def tyX2 : Nat → FieldType := fun k => match k with
  | 0 => .array .char
  | 1 => .int
  | _ => .object "CleaningRota$Table"
abbrev wsX20 : List Cond := u_ws RX2 TX2 3
theorem nmX2 : ∀ a, a < 3 → ∀ b, b < 3 → a ≠ b → (TX2 a).2.1 ≠ (TX2 b).2.1 := by decide +kernel
theorem tyX2_ok : ∀ k, k < 3 → parseFieldDescriptor (TX2 k).2.2.1 = some (tyX2 k) := by decide +kernel
abbrev cX2_init : ByteArray := prog_4_method_1_code
def yX2_init : MethodName := ⟨RX2, "<init>", "()V"⟩
abbrev cX2_countCharacters : ByteArray := prog_4_method_2_code
def yX2_countCharacters : MethodName := ⟨RX2, "countCharacters", "(J)I"⟩
abbrev cX2_append : ByteArray := prog_4_method_3_code
def yX2_append : MethodName := ⟨RX2, "append", "(JI)V"⟩
abbrev cX2_characterAt : ByteArray := prog_4_method_4_code
def yX2_characterAt : MethodName := ⟨RX2, "characterAt", "(I)I"⟩
abbrev cX2_isDigitAt : ByteArray := prog_4_method_5_code
def yX2_isDigitAt : MethodName := ⟨RX2, "isDigitAt", "(I)Z"⟩
abbrev cX2_read : ByteArray := prog_4_method_6_code
def yX2_read : MethodName := ⟨RX2, "read", "()I"⟩
abbrev cX2_addPart : ByteArray := prog_4_method_7_code
def yX2_addPart : MethodName := ⟨RX2, "addPart", "(II)V"⟩
abbrev cX2_endOfNumber : ByteArray := prog_4_method_8_code
def yX2_endOfNumber : MethodName := ⟨RX2, "endOfNumber", "(I)I"⟩
abbrev cX2_numberIn : ByteArray := prog_4_method_9_code
def yX2_numberIn : MethodName := ⟨RX2, "numberIn", "(II)I"⟩
def RX3 : String := "CleaningRota$Table"
def TX3 : u_T := fun k => match k with
  | 0 => ("CleaningRota$Table", "most", "I", true)
  | 1 => ("CleaningRota$Table", "width", "I", true)
  | 2 => ("CleaningRota$Table", "cells", "[I", true)
  | _ => ("CleaningRota$Table", "rows", "I", false)
def tyX3 : Nat → FieldType := fun k => match k with
  | 0 => .int
  | 1 => .int
  | 2 => .array .int
  | _ => .int
abbrev wsX30 : List Cond := u_ws RX3 TX3 4
theorem nmX3 : ∀ a, a < 4 → ∀ b, b < 4 → a ≠ b → (TX3 a).2.1 ≠ (TX3 b).2.1 := by decide +kernel
theorem tyX3_ok : ∀ k, k < 4 → parseFieldDescriptor (TX3 k).2.2.1 = some (tyX3 k) := by decide +kernel
abbrev cX3_init : ByteArray := prog_5_method_1_code
def yX3_init : MethodName := ⟨RX3, "<init>", "(II)V"⟩
abbrev cX3_size : ByteArray := prog_5_method_2_code
def yX3_size : MethodName := ⟨RX3, "size", "()I"⟩
abbrev cX3_isFull : ByteArray := prog_5_method_3_code
def yX3_isFull : MethodName := ⟨RX3, "isFull", "()Z"⟩
abbrev cX3_has : ByteArray := prog_5_method_4_code
def yX3_has : MethodName := ⟨RX3, "has", "(I)Z"⟩
abbrev cX3_cell : ByteArray := prog_5_method_5_code
def yX3_cell : MethodName := ⟨RX3, "cell", "(II)I"⟩
abbrev cX3_write : ByteArray := prog_5_method_6_code
def yX3_write : MethodName := ⟨RX3, "write", "(III)V"⟩
abbrev cX3_increase : ByteArray := prog_5_method_7_code
def yX3_increase : MethodName := ⟨RX3, "increase", "(III)V"⟩
abbrev cX3_exchange : ByteArray := prog_5_method_8_code
def yX3_exchange : MethodName := ⟨RX3, "exchange", "(III)I"⟩
abbrev cX3_append : ByteArray := prog_5_method_9_code
def yX3_append : MethodName := ⟨RX3, "append", "()I"⟩
abbrev cX3_remove : ByteArray := prog_5_method_10_code
def yX3_remove : MethodName := ⟨RX3, "remove", "(I)V"⟩
abbrev cX3_clear : ByteArray := prog_5_method_11_code
def yX3_clear : MethodName := ⟨RX3, "clear", "()V"⟩
abbrev cX3_copyFrom : ByteArray := prog_5_method_12_code
def yX3_copyFrom : MethodName := ⟨RX3, "copyFrom", "(LCleaningRota$Table;)V"⟩
def RX4 : String := "CleaningRota"
def TX4 : u_T := fun k => match k with
  | 0 => ("CleaningRota", "house", "LCleaningRota$House;", true)
  | 1 => ("CleaningRota", "trial", "LCleaningRota$House;", true)
  | 2 => ("CleaningRota", "history", "LCleaningRota$History;", true)
  | _ => ("CleaningRota", "pad", "LCleaningRota$Pad;", true)
def tyX4 : Nat → FieldType := fun k => match k with
  | 0 => .object "CleaningRota$House"
  | 1 => .object "CleaningRota$House"
  | 2 => .object "CleaningRota$History"
  | _ => .object "CleaningRota$Pad"
abbrev wsX40 : List Cond := u_ws RX4 TX4 4
theorem nmX4 : ∀ a, a < 4 → ∀ b, b < 4 → a ≠ b → (TX4 a).2.1 ≠ (TX4 b).2.1 := by decide +kernel
theorem tyX4_ok : ∀ k, k < 4 → parseFieldDescriptor (TX4 k).2.2.1 = some (tyX4 k) := by decide +kernel
abbrev cX4_init : ByteArray := prog_1_method_1_code
def yX4_init : MethodName := ⟨RX4, "<init>", "()V"⟩
abbrev cX4_resident : ByteArray := prog_1_method_2_code
def yX4_resident : MethodName := ⟨RX4, "resident", "(I)I"⟩
abbrev cX4_weigh : ByteArray := prog_1_method_3_code
def yX4_weigh : MethodName := ⟨RX4, "weigh", "(II)I"⟩
abbrev cX4_away : ByteArray := prog_1_method_4_code
def yX4_away : MethodName := ⟨RX4, "away", "(III)I"⟩
abbrev cX4_area : ByteArray := prog_1_method_5_code
def yX4_area : MethodName := ⟨RX4, "area", "(III)I"⟩
abbrev cX4_set : ByteArray := prog_1_method_6_code
def yX4_set : MethodName := ⟨RX4, "set", "(II)I"⟩
abbrev cX4_plan : ByteArray := prog_1_method_7_code
def yX4_plan : MethodName := ⟨RX4, "plan", "()I"⟩
abbrev cX4_done : ByteArray := prog_1_method_8_code
def yX4_done : MethodName := ⟨RX4, "done", "(I)I"⟩
abbrev cX4_extra : ByteArray := prog_1_method_9_code
def yX4_extra : MethodName := ⟨RX4, "extra", "(II)I"⟩
abbrev cX4_end : ByteArray := prog_1_method_10_code
def yX4_end : MethodName := ⟨RX4, "end", "()I"⟩
abbrev cX4_propose : ByteArray := prog_1_method_11_code
def yX4_propose : MethodName := ⟨RX4, "propose", "(II)I"⟩
abbrev cX4_answer : ByteArray := prog_1_method_12_code
def yX4_answer : MethodName := ⟨RX4, "answer", "(II)I"⟩
abbrev cX4_about : ByteArray := prog_1_method_13_code
def yX4_about : MethodName := ⟨RX4, "about", "(II)I"⟩
abbrev cX4_room : ByteArray := prog_1_method_14_code
def yX4_room : MethodName := ⟨RX4, "room", "(II)I"⟩
abbrev cX4_task : ByteArray := prog_1_method_15_code
def yX4_task : MethodName := ⟨RX4, "task", "(II)I"⟩
abbrev cX4_swap : ByteArray := prog_1_method_16_code
def yX4_swap : MethodName := ⟨RX4, "swap", "(II)I"⟩
abbrev cX4_count : ByteArray := prog_1_method_17_code
def yX4_count : MethodName := ⟨RX4, "count", "(I)I"⟩
abbrev cX4_forecast : ByteArray := prog_1_method_18_code
def yX4_forecast : MethodName := ⟨RX4, "forecast", "(II)I"⟩
abbrev cX4_fairer : ByteArray := prog_1_method_19_code
def yX4_fairer : MethodName := ⟨RX4, "fairer", "(I)I"⟩
abbrev cX4_put : ByteArray := prog_1_method_20_code
def yX4_put : MethodName := ⟨RX4, "put", "(J)I"⟩
abbrev cX4_wipe : ByteArray := prog_1_method_21_code
def yX4_wipe : MethodName := ⟨RX4, "wipe", "()I"⟩
abbrev cX4_fault : ByteArray := prog_1_method_22_code
def yX4_fault : MethodName := ⟨RX4, "fault", "()I"⟩
abbrev cX4_load : ByteArray := prog_1_method_23_code
def yX4_load : MethodName := ⟨RX4, "load", "()I"⟩
abbrev cX4_undo : ByteArray := prog_1_method_24_code
def yX4_undo : MethodName := ⟨RX4, "undo", "()I"⟩
abbrev cX4_isIn : ByteArray := prog_1_method_25_code
def yX4_isIn : MethodName := ⟨RX4, "isIn", "(III)Z"⟩
abbrev cX4_isWeight : ByteArray := prog_1_method_26_code
def yX4_isWeight : MethodName := ⟨RX4, "isWeight", "(I)Z"⟩
abbrev cX4_isSettingValue : ByteArray := prog_1_method_27_code
def yX4_isSettingValue : MethodName := ⟨RX4, "isSettingValue", "(II)Z"⟩
abbrev cX4_bit : ByteArray := prog_1_method_28_code
def yX4_bit : MethodName := ⟨RX4, "bit", "(Z)I"⟩
def RX5 : String := "CleaningRotaModel"
def TX5 : u_T := fun k => match k with
  | _ => ("", "", "", false)
def tyX5 : Nat → FieldType := fun k => match k with
  | _ => .int
abbrev wsX50 : List Cond := u_ws RX5 TX5 0
theorem nmX5 : ∀ a, a < 0 → ∀ b, b < 0 → a ≠ b → (TX5 a).2.1 ≠ (TX5 b).2.1 := by decide +kernel
theorem tyX5_ok : ∀ k, k < 0 → parseFieldDescriptor (TX5 k).2.2.1 = some (tyX5 k) := by decide +kernel
def RJ9 : String := "java/lang/Math"
def TJ9 : u_T := fun k => match k with
  | _ => ("", "", "", false)
def tyJ9 : Nat → FieldType := fun k => match k with
  | _ => .int
abbrev wsJ90 : List Cond := u_ws RJ9 TJ9 0
theorem nmJ9 : ∀ a, a < 0 → ∀ b, b < 0 → a ≠ b → (TJ9 a).2.1 ≠ (TJ9 b).2.1 := by decide +kernel
theorem tyJ9_ok : ∀ k, k < 0 → parseFieldDescriptor (TJ9 k).2.2.1 = some (tyJ9 k) := by decide +kernel
abbrev cJ9_max_7cf53 : ByteArray := prog_8_method_65_code
def yJ9_max_7cf53 : MethodName := ⟨RJ9, "max", "(II)I"⟩
abbrev cJ9_min_7cf53 : ByteArray := prog_8_method_69_code
def yJ9_min_7cf53 : MethodName := ⟨RJ9, "min", "(II)I"⟩
def RJ10 : String := "java/lang/System"
def TJ10 : u_T := fun k => match k with
  | _ => ("", "", "", false)
def tyJ10 : Nat → FieldType := fun k => match k with
  | _ => .int
abbrev wsJ100 : List Cond := u_ws RJ10 TJ10 0
theorem nmJ10 : ∀ a, a < 0 → ∀ b, b < 0 → a ≠ b → (TJ10 a).2.1 ≠ (TJ10 b).2.1 := by decide +kernel
theorem tyJ10_ok : ∀ k, k < 0 → parseFieldDescriptor (TJ10 k).2.2.1 = some (tyJ10 k) := by decide +kernel
def RL : String := "CleaningRotaLaw"
abbrev cL_cell : ByteArray := method_2_code
def yL_cell : MethodName := ⟨RL, "cell", "([II)I"⟩
abbrev cL_up : ByteArray := method_3_code
def yL_up : MethodName := ⟨RL, "up", "(II)I"⟩
abbrev cL_law : ByteArray := code
def yL_law : MethodName := ⟨RL, "law", "([I)Z"⟩
abbrev cL_act : ByteArray := method_5_code
def yL_act : MethodName := ⟨RL, "act", "(LCleaningRota;III)Z"⟩
abbrev cL_plans : ByteArray := method_6_code
def yL_plans : MethodName := ⟨RL, "plans", "(LCleaningRota;)Z"⟩
abbrev cL_does : ByteArray := method_7_code
def yL_does : MethodName := ⟨RL, "does", "(LCleaningRota;I)Z"⟩
abbrev cL_ends : ByteArray := method_8_code
def yL_ends : MethodName := ⟨RL, "ends", "(LCleaningRota;)Z"⟩
abbrev cL_extra : ByteArray := method_9_code
def yL_extra : MethodName := ⟨RL, "extra", "(LCleaningRota;II)Z"⟩
abbrev cL_proposes : ByteArray := method_10_code
def yL_proposes : MethodName := ⟨RL, "proposes", "(LCleaningRota;II)Z"⟩
abbrev cL_answers : ByteArray := method_11_code
def yL_answers : MethodName := ⟨RL, "answers", "(LCleaningRota;II)Z"⟩
abbrev cL_spreads : ByteArray := method_12_code
def yL_spreads : MethodName := ⟨RL, "spreads", "(LCleaningRota;)Z"⟩
abbrev cL_open : ByteArray := method_13_code
def yL_open : MethodName := ⟨RL, "open", "(LCleaningRota;)Z"⟩
abbrev cL_comes : ByteArray := method_14_code
def yL_comes : MethodName := ⟨RL, "comes", "(LCleaningRota;I)Z"⟩
abbrev cL_fair : ByteArray := method_15_code
def yL_fair : MethodName := ⟨RL, "fair", "(LCleaningRota;)Z"⟩
abbrev cL_told : ByteArray := method_16_code
def yL_told : MethodName := ⟨RL, "told", "(LCleaningRota;I)Z"⟩
abbrev cL_back : ByteArray := method_17_code
def yL_back : MethodName := ⟨RL, "back", "(LCleaningRota;I)Z"⟩
abbrev cL_refused : ByteArray := method_18_code
def yL_refused : MethodName := ⟨RL, "refused", "(LCleaningRota;I)Z"⟩
abbrev vwCl : List vw_C := [(RX0, TX0, 2), (RX1, TX1, 9), (RX2, TX2, 3), (RX3, TX3, 4), (RX4, TX4, 4)]
-- ===== words, by their places =====
def TG : List Cond := lw_tbl.filter goodWord
theorem TG_in : ∀ w ∈ TG, w ∈ lw_tbl := fun _ h => (List.mem_filter.mp h).1
theorem TG_good : ∀ w ∈ TG, goodWord w = true := fun _ h => (List.mem_filter.mp h).2
theorem tg (i : Nat) {w : Cond} (h : lw_tbl[i]? = some w) (hg : goodWord w = true) : w ∈ TG := List.mem_filter.mpr ⟨List.mem_of_getElem? h, hg⟩
def VLink (own : String) (idx : Nat) (y : MethodName) : Prop := Cond.methodLink own idx y ∈ TG ∧ Cond.instanceMethod y ∈ TG ∧ Cond.selects y.cls y y ∈ TG ∧ Cond.initialized y.cls ∈ TG
def SLink (own : String) (idx : Nat) (y : MethodName) : Prop := Cond.methodLink own idx y ∈ TG ∧ Cond.static y ∈ TG ∧ Cond.initialized y.cls ∈ TG
def ILink (own : String) (idx : Nat) (y : MethodName) : Prop := Cond.methodLink own idx y ∈ TG ∧ Cond.instanceMethod y ∈ TG ∧ Cond.initialized y.cls ∈ TG
def NLink (y : MethodName) : Prop := Cond.static y ∈ TG ∧ Cond.initialized y.cls ∈ TG
theorem cd_X4_init : Cond.code yX4_init cX4_init 1 none ∈ TG := tg 35 (by decide +kernel) (by decide +kernel)
theorem cd_X1_init : Cond.code yX1_init cX1_init 1 none ∈ TG := tg 43 (by decide +kernel) (by decide +kernel)
theorem cd_X3_init : Cond.code yX3_init cX3_init 3 none ∈ TG := tg 49 (by decide +kernel) (by decide +kernel)
theorem cd_X3_append : Cond.code yX3_append cX3_append 3 (some .int) ∈ TG := tg 71 (by decide +kernel) (by decide +kernel)
theorem cd_X3_isFull : Cond.code yX3_isFull cX3_isFull 1 (some .boolean) ∈ TG := tg 75 (by decide +kernel) (by decide +kernel)
theorem cd_X3_write : Cond.code yX3_write cX3_write 5 none ∈ TG := tg 79 (by decide +kernel) (by decide +kernel)
theorem cd_X0_init : Cond.code yX0_init cX0_init 2 none ∈ TG := tg 122 (by decide +kernel) (by decide +kernel)
theorem cd_X2_init : Cond.code yX2_init cX2_init 1 none ∈ TG := tg 139 (by decide +kernel) (by decide +kernel)
theorem cd_X4_resident : Cond.code yX4_resident cX4_resident 2 (some .int) ∈ TG := tg 172 (by decide +kernel) (by decide +kernel)
theorem cd_X4_isWeight : Cond.code yX4_isWeight cX4_isWeight 1 (some .boolean) ∈ TG := tg 175 (by decide +kernel) (by decide +kernel)
theorem cd_X4_isIn : Cond.code yX4_isIn cX4_isIn 3 (some .boolean) ∈ TG := tg 178 (by decide +kernel) (by decide +kernel)
theorem cd_X0_keep : Cond.code yX0_keep cX0_keep 3 none ∈ TG := tg 183 (by decide +kernel) (by decide +kernel)
theorem cd_X0_dropOldest : Cond.code yX0_dropOldest cX0_dropOldest 3 none ∈ TG := tg 187 (by decide +kernel) (by decide +kernel)
theorem cd_X0_stateAt : Cond.code yX0_stateAt cX0_stateAt 2 (some (.object "CleaningRota$House")) ∈ TG := tg 191 (by decide +kernel) (by decide +kernel)
theorem cd_X1_copyFrom : Cond.code yX1_copyFrom cX1_copyFrom 2 none ∈ TG := tg 195 (by decide +kernel) (by decide +kernel)
theorem cd_X3_copyFrom : Cond.code yX3_copyFrom cX3_copyFrom 2 none ∈ TG := tg 199 (by decide +kernel) (by decide +kernel)
theorem cd_X1_addResident : Cond.code yX1_addResident cX1_addResident 3 (some .int) ∈ TG := tg 209 (by decide +kernel) (by decide +kernel)
theorem cd_X4_area : Cond.code yX4_area cX4_area 4 (some .int) ∈ TG := tg 213 (by decide +kernel) (by decide +kernel)
theorem cd_X1_addArea : Cond.code yX1_addArea cX1_addArea 5 (some .int) ∈ TG := tg 217 (by decide +kernel) (by decide +kernel)
theorem cd_X4_set : Cond.code yX4_set cX4_set 3 (some .int) ∈ TG := tg 221 (by decide +kernel) (by decide +kernel)
theorem cd_X4_isSettingValue : Cond.code yX4_isSettingValue cX4_isSettingValue 2 (some .boolean) ∈ TG := tg 224 (by decide +kernel) (by decide +kernel)
theorem cd_X3_exchange : Cond.code yX3_exchange cX3_exchange 5 (some .int) ∈ TG := tg 228 (by decide +kernel) (by decide +kernel)
theorem cd_X3_cell : Cond.code yX3_cell cX3_cell 4 (some .int) ∈ TG := tg 232 (by decide +kernel) (by decide +kernel)
theorem cd_L_cell : Cond.code yL_cell cL_cell 2 (some .int) ∈ TG := tg 235 (by decide +kernel) (by decide +kernel)
theorem cd_L_up : Cond.code yL_up cL_up 2 (some .int) ∈ TG := tg 239 (by decide +kernel) (by decide +kernel)
theorem cd_L_act : Cond.code yL_act cL_act 9 (some .boolean) ∈ TG := tg 243 (by decide +kernel) (by decide +kernel)
theorem cd_X4_count : Cond.code yX4_count cX4_count 2 (some .int) ∈ TG := tg 247 (by decide +kernel) (by decide +kernel)
theorem cd_X3_size : Cond.code yX3_size cX3_size 1 (some .int) ∈ TG := tg 251 (by decide +kernel) (by decide +kernel)
theorem cd_X1_countOpenTasks : Cond.code yX1_countOpenTasks cX1_countOpenTasks 3 (some .int) ∈ TG := tg 255 (by decide +kernel) (by decide +kernel)
theorem cd_X1_isOpen : Cond.code yX1_isOpen cX1_isOpen 2 (some .boolean) ∈ TG := tg 260 (by decide +kernel) (by decide +kernel)
theorem cd_X3_has : Cond.code yX3_has cX3_has 2 (some .boolean) ∈ TG := tg 264 (by decide +kernel) (by decide +kernel)
theorem cd_X4_bit : Cond.code yX4_bit cX4_bit 1 (some .int) ∈ TG := tg 268 (by decide +kernel) (by decide +kernel)
theorem cd_X1_spread : Cond.code yX1_spread cX1_spread 1 (some .int) ∈ TG := tg 273 (by decide +kernel) (by decide +kernel)
theorem cd_X1_spreadOf : Cond.code yX1_spreadOf cX1_spreadOf 11 (some .int) ∈ TG := tg 277 (by decide +kernel) (by decide +kernel)
theorem cd_X1_loadOf : Cond.code yX1_loadOf cX1_loadOf 2 (some .int) ∈ TG := tg 281 (by decide +kernel) (by decide +kernel)
theorem cd_X1_rateOf : Cond.code yX1_rateOf cX1_rateOf 4 (some .int) ∈ TG := tg 285 (by decide +kernel) (by decide +kernel)
theorem cd_X1_plannedSpread : Cond.code yX1_plannedSpread cX1_plannedSpread 1 (some .int) ∈ TG := tg 291 (by decide +kernel) (by decide +kernel)
theorem cd_L_plans : Cond.code yL_plans cL_plans 17 (some .boolean) ∈ TG := tg 295 (by decide +kernel) (by decide +kernel)
theorem cd_X4_plan : Cond.code yX4_plan cX4_plan 1 (some .int) ∈ TG := tg 299 (by decide +kernel) (by decide +kernel)
theorem cd_X1_planWeek : Cond.code yX1_planWeek cX1_planWeek 2 (some .int) ∈ TG := tg 303 (by decide +kernel) (by decide +kernel)
theorem cd_X1_leastLoaded : Cond.code yX1_leastLoaded cX1_leastLoaded 5 (some .int) ∈ TG := tg 307 (by decide +kernel) (by decide +kernel)
theorem cd_X1_isAway : Cond.code yX1_isAway cX1_isAway 2 (some .boolean) ∈ TG := tg 311 (by decide +kernel) (by decide +kernel)
theorem cd_X1_goesAhead : Cond.code yX1_goesAhead cX1_goesAhead 5 (some .boolean) ∈ TG := tg 316 (by decide +kernel) (by decide +kernel)
theorem cd_X1_makeTasks : Cond.code yX1_makeTasks cX1_makeTasks 6 none ∈ TG := tg 320 (by decide +kernel) (by decide +kernel)
theorem cd_X1_areaOfNextTask : Cond.code yX1_areaOfNextTask cX1_areaOfNextTask 6 (some .int) ∈ TG := tg 324 (by decide +kernel) (by decide +kernel)
theorem cd_X1_effortOfTask : Cond.code yX1_effortOfTask cX1_effortOfTask 3 (some .int) ∈ TG := tg 328 (by decide +kernel) (by decide +kernel)
theorem cd_X1_needsDeepClean : Cond.code yX1_needsDeepClean cX1_needsDeepClean 2 (some .boolean) ∈ TG := tg 332 (by decide +kernel) (by decide +kernel)
theorem cd_X1_isDue : Cond.code yX1_isDue cX1_isDue 3 (some .boolean) ∈ TG := tg 336 (by decide +kernel) (by decide +kernel)
theorem cd_X1_addTask : Cond.code yX1_addTask cX1_addTask 5 none ∈ TG := tg 340 (by decide +kernel) (by decide +kernel)
theorem cd_X1_giveTasks : Cond.code yX1_giveTasks cX1_giveTasks 3 none ∈ TG := tg 344 (by decide +kernel) (by decide +kernel)
theorem cd_X1_hasTwinAhead : Cond.code yX1_hasTwinAhead cX1_hasTwinAhead 2 (some .boolean) ∈ TG := tg 348 (by decide +kernel) (by decide +kernel)
theorem cd_X3_increase : Cond.code yX3_increase cX3_increase 4 none ∈ TG := tg 352 (by decide +kernel) (by decide +kernel)
theorem cd_X4_about : Cond.code yX4_about cX4_about 3 (some .int) ∈ TG := tg 356 (by decide +kernel) (by decide +kernel)
theorem cd_X1_countOpenTasksOf : Cond.code yX1_countOpenTasksOf cX1_countOpenTasksOf 4 (some .int) ∈ TG := tg 363 (by decide +kernel) (by decide +kernel)
theorem cd_X1_isOpenTaskOf : Cond.code yX1_isOpenTaskOf cX1_isOpenTaskOf 3 (some .boolean) ∈ TG := tg 367 (by decide +kernel) (by decide +kernel)
theorem cd_X1_firstOpenTaskOf : Cond.code yX1_firstOpenTaskOf cX1_firstOpenTaskOf 3 (some .int) ∈ TG := tg 371 (by decide +kernel) (by decide +kernel)
theorem cd_X4_room : Cond.code yX4_room cX4_room 3 (some .int) ∈ TG := tg 376 (by decide +kernel) (by decide +kernel)
theorem cd_X4_task : Cond.code yX4_task cX4_task 3 (some .int) ∈ TG := tg 382 (by decide +kernel) (by decide +kernel)
theorem cd_X4_done : Cond.code yX4_done cX4_done 2 (some .int) ∈ TG := tg 386 (by decide +kernel) (by decide +kernel)
theorem cd_X1_finish : Cond.code yX1_finish cX1_finish 4 (some .int) ∈ TG := tg 391 (by decide +kernel) (by decide +kernel)
theorem cd_X1_isTwinOpen : Cond.code yX1_isTwinOpen cX1_isTwinOpen 2 (some .boolean) ∈ TG := tg 395 (by decide +kernel) (by decide +kernel)
theorem cd_X1_clean : Cond.code yX1_clean cX1_clean 2 none ∈ TG := tg 399 (by decide +kernel) (by decide +kernel)
theorem cd_X1_dropSwapsWith : Cond.code yX1_dropSwapsWith cX1_dropSwapsWith 3 none ∈ TG := tg 403 (by decide +kernel) (by decide +kernel)
theorem cd_X3_remove : Cond.code yX3_remove cX3_remove 4 none ∈ TG := tg 407 (by decide +kernel) (by decide +kernel)
theorem cd_L_does : Cond.code yL_does cL_does 13 (some .boolean) ∈ TG := tg 411 (by decide +kernel) (by decide +kernel)
theorem cd_X4_swap : Cond.code yX4_swap cX4_swap 5 (some .int) ∈ TG := tg 415 (by decide +kernel) (by decide +kernel)
theorem cd_X4_end : Cond.code yX4_end cX4_end 1 (some .int) ∈ TG := tg 419 (by decide +kernel) (by decide +kernel)
theorem cd_X1_endWeek : Cond.code yX1_endWeek cX1_endWeek 3 (some .int) ∈ TG := tg 423 (by decide +kernel) (by decide +kernel)
theorem cd_X1_skip : Cond.code yX1_skip cX1_skip 4 none ∈ TG := tg 428 (by decide +kernel) (by decide +kernel)
theorem cd_X3_clear : Cond.code yX3_clear cX3_clear 1 none ∈ TG := tg 432 (by decide +kernel) (by decide +kernel)
theorem cd_X1_decayPoints : Cond.code yX1_decayPoints cX1_decayPoints 3 none ∈ TG := tg 436 (by decide +kernel) (by decide +kernel)
theorem cd_X1_growDirt : Cond.code yX1_growDirt cX1_growDirt 3 none ∈ TG := tg 440 (by decide +kernel) (by decide +kernel)
theorem cd_L_ends : Cond.code yL_ends cL_ends 9 (some .boolean) ∈ TG := tg 443 (by decide +kernel) (by decide +kernel)
theorem cd_L_extra : Cond.code yL_extra cL_extra 9 (some .boolean) ∈ TG := tg 446 (by decide +kernel) (by decide +kernel)
theorem cd_X4_extra : Cond.code yX4_extra cX4_extra 3 (some .int) ∈ TG := tg 450 (by decide +kernel) (by decide +kernel)
theorem cd_X1_payDebt : Cond.code yX1_payDebt cX1_payDebt 4 (some .int) ∈ TG := tg 454 (by decide +kernel) (by decide +kernel)
theorem cd_X4_propose : Cond.code yX4_propose cX4_propose 3 (some .int) ∈ TG := tg 458 (by decide +kernel) (by decide +kernel)
theorem cd_X1_canExchange : Cond.code yX1_canExchange cX1_canExchange 3 (some .boolean) ∈ TG := tg 462 (by decide +kernel) (by decide +kernel)
theorem cd_X1_isProposed : Cond.code yX1_isProposed cX1_isProposed 4 (some .boolean) ∈ TG := tg 466 (by decide +kernel) (by decide +kernel)
theorem cd_X1_addSwap : Cond.code yX1_addSwap cX1_addSwap 4 (some .int) ∈ TG := tg 470 (by decide +kernel) (by decide +kernel)
theorem cd_L_proposes : Cond.code yL_proposes cL_proposes 6 (some .boolean) ∈ TG := tg 473 (by decide +kernel) (by decide +kernel)
theorem cd_X4_answer : Cond.code yX4_answer cX4_answer 3 (some .int) ∈ TG := tg 477 (by decide +kernel) (by decide +kernel)
theorem cd_X1_acceptSwap : Cond.code yX1_acceptSwap cX1_acceptSwap 7 (some .int) ∈ TG := tg 481 (by decide +kernel) (by decide +kernel)
theorem cd_X1_gainOfExchange : Cond.code yX1_gainOfExchange cX1_gainOfExchange 3 (some .int) ∈ TG := tg 485 (by decide +kernel) (by decide +kernel)
theorem cd_X1_declineSwap : Cond.code yX1_declineSwap cX1_declineSwap 2 (some .int) ∈ TG := tg 489 (by decide +kernel) (by decide +kernel)
theorem cd_L_answers : Cond.code yL_answers cL_answers 11 (some .boolean) ∈ TG := tg 492 (by decide +kernel) (by decide +kernel)
theorem cd_X4_away : Cond.code yX4_away cX4_away 4 (some .int) ∈ TG := tg 496 (by decide +kernel) (by decide +kernel)
theorem cd_L_spreads : Cond.code yL_spreads cL_spreads 8 (some .boolean) ∈ TG := tg 500 (by decide +kernel) (by decide +kernel)
theorem cd_X4_forecast : Cond.code yX4_forecast cX4_forecast 5 (some .int) ∈ TG := tg 504 (by decide +kernel) (by decide +kernel)
theorem cd_X1_countOpenDeepTasks : Cond.code yX1_countOpenDeepTasks cX1_countOpenDeepTasks 3 (some .int) ∈ TG := tg 509 (by decide +kernel) (by decide +kernel)
theorem cd_X1_finishOpenTasks : Cond.code yX1_finishOpenTasks cX1_finishOpenTasks 1 none ∈ TG := tg 513 (by decide +kernel) (by decide +kernel)
theorem cd_X1_finishFromTo : Cond.code yX1_finishFromTo cX1_finishFromTo 4 none ∈ TG := tg 517 (by decide +kernel) (by decide +kernel)
theorem cd_X1_greatestDirt : Cond.code yX1_greatestDirt cX1_greatestDirt 3 (some .int) ∈ TG := tg 522 (by decide +kernel) (by decide +kernel)
theorem cd_L_open : Cond.code yL_open cL_open 3 (some .boolean) ∈ TG := tg 525 (by decide +kernel) (by decide +kernel)
theorem cd_L_comes : Cond.code yL_comes cL_comes 13 (some .boolean) ∈ TG := tg 528 (by decide +kernel) (by decide +kernel)
theorem cd_X4_wipe : Cond.code yX4_wipe cX4_wipe 2 (some .int) ∈ TG := tg 532 (by decide +kernel) (by decide +kernel)
theorem cd_X4_put : Cond.code yX4_put cX4_put 4 (some .int) ∈ TG := tg 537 (by decide +kernel) (by decide +kernel)
theorem cd_X2_countCharacters : Cond.code yX2_countCharacters cX2_countCharacters 7 (some .int) ∈ TG := tg 540 (by decide +kernel) (by decide +kernel)
theorem cd_X2_append : Cond.code yX2_append cX2_append 5 none ∈ TG := tg 546 (by decide +kernel) (by decide +kernel)
theorem cd_X4_load : Cond.code yX4_load cX4_load 3 (some .int) ∈ TG := tg 550 (by decide +kernel) (by decide +kernel)
theorem cd_X2_read : Cond.code yX2_read cX2_read 7 (some .int) ∈ TG := tg 554 (by decide +kernel) (by decide +kernel)
theorem cd_X2_endOfNumber : Cond.code yX2_endOfNumber cX2_endOfNumber 3 (some .int) ∈ TG := tg 559 (by decide +kernel) (by decide +kernel)
theorem cd_X2_isDigitAt : Cond.code yX2_isDigitAt cX2_isDigitAt 2 (some .boolean) ∈ TG := tg 563 (by decide +kernel) (by decide +kernel)
theorem cd_X2_characterAt : Cond.code yX2_characterAt cX2_characterAt 2 (some .int) ∈ TG := tg 567 (by decide +kernel) (by decide +kernel)
theorem cd_X2_numberIn : Cond.code yX2_numberIn cX2_numberIn 5 (some .int) ∈ TG := tg 571 (by decide +kernel) (by decide +kernel)
theorem cd_X2_addPart : Cond.code yX2_addPart cX2_addPart 4 none ∈ TG := tg 575 (by decide +kernel) (by decide +kernel)
theorem cd_X4_undo : Cond.code yX4_undo cX4_undo 1 (some .int) ∈ TG := tg 582 (by decide +kernel) (by decide +kernel)
theorem cd_X0_restore : Cond.code yX0_restore cX0_restore 3 none ∈ TG := tg 586 (by decide +kernel) (by decide +kernel)
theorem cd_L_fair : Cond.code yL_fair cL_fair 13 (some .boolean) ∈ TG := tg 589 (by decide +kernel) (by decide +kernel)
theorem cd_X4_fairer : Cond.code yX4_fairer cX4_fairer 8 (some .int) ∈ TG := tg 594 (by decide +kernel) (by decide +kernel)
theorem cd_X1_spreadIfExchanged : Cond.code yX1_spreadIfExchanged cX1_spreadIfExchanged 5 (some .int) ∈ TG := tg 598 (by decide +kernel) (by decide +kernel)
theorem cd_L_told : Cond.code yL_told cL_told 8 (some .boolean) ∈ TG := tg 601 (by decide +kernel) (by decide +kernel)
theorem cd_X4_fault : Cond.code yX4_fault cX4_fault 1 (some .int) ∈ TG := tg 606 (by decide +kernel) (by decide +kernel)
theorem cd_L_back : Cond.code yL_back cL_back 11 (some .boolean) ∈ TG := tg 609 (by decide +kernel) (by decide +kernel)
theorem cd_X4_weigh : Cond.code yX4_weigh cX4_weigh 3 (some .int) ∈ TG := tg 613 (by decide +kernel) (by decide +kernel)
theorem cd_L_refused : Cond.code yL_refused cL_refused 3 (some .boolean) ∈ TG := tg 616 (by decide +kernel) (by decide +kernel)
theorem il_RL_11 : ILink RL 11 yX4_init := ⟨tg 33 (by decide +kernel) (by decide +kernel), tg 34 (by decide +kernel) (by decide +kernel), tg 24 (by decide +kernel) (by decide +kernel)⟩
theorem ol_RX4_1 : Cond.methodLink RX4 1 objectInit ∈ TG := tg 36 (by decide +kernel) (by decide +kernel)
theorem il_RX4_9 : ILink RX4 9 yX1_init := ⟨tg 41 (by decide +kernel) (by decide +kernel), tg 42 (by decide +kernel) (by decide +kernel), tg 25 (by decide +kernel) (by decide +kernel)⟩
theorem ol_RX1_5 : Cond.methodLink RX1 5 objectInit ∈ TG := tg 44 (by decide +kernel) (by decide +kernel)
theorem il_RX1_13 : ILink RX1 13 yX3_init := ⟨tg 47 (by decide +kernel) (by decide +kernel), tg 48 (by decide +kernel) (by decide +kernel), tg 26 (by decide +kernel) (by decide +kernel)⟩
theorem ol_RX3_3 : Cond.methodLink RX3 3 objectInit ∈ TG := tg 50 (by decide +kernel) (by decide +kernel)
theorem jl_RX3_18 : Cond.methodLink RX3 18 Lib.Math.max.name ∈ TG := tg 51 (by decide +kernel) (by decide +kernel)
theorem vl_RX1_32 : VLink RX1 32 yX3_append := ⟨tg 68 (by decide +kernel) (by decide +kernel), tg 69 (by decide +kernel) (by decide +kernel), tg 70 (by decide +kernel) (by decide +kernel), tg 26 (by decide +kernel) (by decide +kernel)⟩
theorem vl_RX3_38 : VLink RX3 38 yX3_isFull := ⟨tg 72 (by decide +kernel) (by decide +kernel), tg 73 (by decide +kernel) (by decide +kernel), tg 74 (by decide +kernel) (by decide +kernel), tg 26 (by decide +kernel) (by decide +kernel)⟩
theorem vl_RX3_34 : VLink RX3 34 yX3_write := ⟨tg 76 (by decide +kernel) (by decide +kernel), tg 77 (by decide +kernel) (by decide +kernel), tg 78 (by decide +kernel) (by decide +kernel), tg 26 (by decide +kernel) (by decide +kernel)⟩
theorem vl_RX1_36 : VLink RX1 36 yX3_write := ⟨tg 80 (by decide +kernel) (by decide +kernel), tg 77 (by decide +kernel) (by decide +kernel), tg 78 (by decide +kernel) (by decide +kernel), tg 26 (by decide +kernel) (by decide +kernel)⟩
theorem il_RX4_21 : ILink RX4 21 yX0_init := ⟨tg 120 (by decide +kernel) (by decide +kernel), tg 121 (by decide +kernel) (by decide +kernel), tg 28 (by decide +kernel) (by decide +kernel)⟩
theorem ol_RX0_1 : Cond.methodLink RX0 1 objectInit ∈ TG := tg 123 (by decide +kernel) (by decide +kernel)
theorem il_RX0_15 : ILink RX0 15 yX1_init := ⟨tg 126 (by decide +kernel) (by decide +kernel), tg 42 (by decide +kernel) (by decide +kernel), tg 25 (by decide +kernel) (by decide +kernel)⟩
theorem il_RX4_28 : ILink RX4 28 yX2_init := ⟨tg 137 (by decide +kernel) (by decide +kernel), tg 138 (by decide +kernel) (by decide +kernel), tg 29 (by decide +kernel) (by decide +kernel)⟩
theorem ol_RX2_3 : Cond.methodLink RX2 3 objectInit ∈ TG := tg 140 (by decide +kernel) (by decide +kernel)
theorem il_RX2_17 : ILink RX2 17 yX3_init := ⟨tg 142 (by decide +kernel) (by decide +kernel), tg 48 (by decide +kernel) (by decide +kernel), tg 26 (by decide +kernel) (by decide +kernel)⟩
theorem vl_RL_29 : VLink RL 29 yX4_resident := ⟨tg 169 (by decide +kernel) (by decide +kernel), tg 170 (by decide +kernel) (by decide +kernel), tg 171 (by decide +kernel) (by decide +kernel), tg 24 (by decide +kernel) (by decide +kernel)⟩
theorem sl_RX4_33 : SLink RX4 33 yX4_isWeight := ⟨tg 173 (by decide +kernel) (by decide +kernel), tg 174 (by decide +kernel) (by decide +kernel), tg 24 (by decide +kernel) (by decide +kernel)⟩
theorem sl_RX4_62 : SLink RX4 62 yX4_isIn := ⟨tg 176 (by decide +kernel) (by decide +kernel), tg 177 (by decide +kernel) (by decide +kernel), tg 24 (by decide +kernel) (by decide +kernel)⟩
theorem vl_RX4_41 : VLink RX4 41 yX3_isFull := ⟨tg 179 (by decide +kernel) (by decide +kernel), tg 73 (by decide +kernel) (by decide +kernel), tg 74 (by decide +kernel) (by decide +kernel), tg 26 (by decide +kernel) (by decide +kernel)⟩
theorem vl_RX4_47 : VLink RX4 47 yX0_keep := ⟨tg 180 (by decide +kernel) (by decide +kernel), tg 181 (by decide +kernel) (by decide +kernel), tg 182 (by decide +kernel) (by decide +kernel), tg 28 (by decide +kernel) (by decide +kernel)⟩
theorem vl_RX0_20 : VLink RX0 20 yX0_dropOldest := ⟨tg 184 (by decide +kernel) (by decide +kernel), tg 186 (by decide +kernel) (by decide +kernel), tg 0 (by decide +kernel) (by decide +kernel), tg 28 (by decide +kernel) (by decide +kernel)⟩
theorem vl_RX0_23 : VLink RX0 23 yX0_stateAt := ⟨tg 188 (by decide +kernel) (by decide +kernel), tg 190 (by decide +kernel) (by decide +kernel), tg 1 (by decide +kernel) (by decide +kernel), tg 28 (by decide +kernel) (by decide +kernel)⟩
theorem vl_RX0_27 : VLink RX0 27 yX1_copyFrom := ⟨tg 192 (by decide +kernel) (by decide +kernel), tg 193 (by decide +kernel) (by decide +kernel), tg 194 (by decide +kernel) (by decide +kernel), tg 25 (by decide +kernel) (by decide +kernel)⟩
theorem vl_RX1_40 : VLink RX1 40 yX3_copyFrom := ⟨tg 196 (by decide +kernel) (by decide +kernel), tg 197 (by decide +kernel) (by decide +kernel), tg 198 (by decide +kernel) (by decide +kernel), tg 26 (by decide +kernel) (by decide +kernel)⟩
theorem jl_RX3_46 : Cond.methodLink RX3 46 Lib.Math.min.name ∈ TG := tg 200 (by decide +kernel) (by decide +kernel)
theorem jl_RX3_49 : Cond.methodLink RX3 49 arraycopyName ∈ TG := tg 203 (by decide +kernel) (by decide +kernel)
theorem vl_RX4_51 : VLink RX4 51 yX1_addResident := ⟨tg 206 (by decide +kernel) (by decide +kernel), tg 207 (by decide +kernel) (by decide +kernel), tg 208 (by decide +kernel) (by decide +kernel), tg 25 (by decide +kernel) (by decide +kernel)⟩
theorem vl_RL_33 : VLink RL 33 yX4_area := ⟨tg 210 (by decide +kernel) (by decide +kernel), tg 211 (by decide +kernel) (by decide +kernel), tg 212 (by decide +kernel) (by decide +kernel), tg 24 (by decide +kernel) (by decide +kernel)⟩
theorem vl_RX4_80 : VLink RX4 80 yX1_addArea := ⟨tg 214 (by decide +kernel) (by decide +kernel), tg 215 (by decide +kernel) (by decide +kernel), tg 216 (by decide +kernel) (by decide +kernel), tg 25 (by decide +kernel) (by decide +kernel)⟩
theorem vl_RL_26 : VLink RL 26 yX4_set := ⟨tg 218 (by decide +kernel) (by decide +kernel), tg 219 (by decide +kernel) (by decide +kernel), tg 220 (by decide +kernel) (by decide +kernel), tg 24 (by decide +kernel) (by decide +kernel)⟩
theorem sl_RX4_83 : SLink RX4 83 yX4_isSettingValue := ⟨tg 222 (by decide +kernel) (by decide +kernel), tg 223 (by decide +kernel) (by decide +kernel), tg 24 (by decide +kernel) (by decide +kernel)⟩
theorem vl_RX4_58 : VLink RX4 58 yX3_exchange := ⟨tg 225 (by decide +kernel) (by decide +kernel), tg 226 (by decide +kernel) (by decide +kernel), tg 227 (by decide +kernel) (by decide +kernel), tg 26 (by decide +kernel) (by decide +kernel)⟩
theorem vl_RX3_31 : VLink RX3 31 yX3_cell := ⟨tg 229 (by decide +kernel) (by decide +kernel), tg 230 (by decide +kernel) (by decide +kernel), tg 231 (by decide +kernel) (by decide +kernel), tg 26 (by decide +kernel) (by decide +kernel)⟩
theorem sl_RL_12 : SLink RL 12 yL_cell := ⟨tg 233 (by decide +kernel) (by decide +kernel), tg 234 (by decide +kernel) (by decide +kernel), tg 23 (by decide +kernel) (by decide +kernel)⟩
theorem sl_RL_22 : SLink RL 22 yL_up := ⟨tg 237 (by decide +kernel) (by decide +kernel), tg 238 (by decide +kernel) (by decide +kernel), tg 23 (by decide +kernel) (by decide +kernel)⟩
theorem sl_RL_37 : SLink RL 37 yL_act := ⟨tg 241 (by decide +kernel) (by decide +kernel), tg 242 (by decide +kernel) (by decide +kernel), tg 23 (by decide +kernel) (by decide +kernel)⟩
theorem vl_RL_60 : VLink RL 60 yX4_count := ⟨tg 244 (by decide +kernel) (by decide +kernel), tg 245 (by decide +kernel) (by decide +kernel), tg 246 (by decide +kernel) (by decide +kernel), tg 24 (by decide +kernel) (by decide +kernel)⟩
theorem vl_RX4_157 : VLink RX4 157 yX3_size := ⟨tg 248 (by decide +kernel) (by decide +kernel), tg 249 (by decide +kernel) (by decide +kernel), tg 250 (by decide +kernel) (by decide +kernel), tg 26 (by decide +kernel) (by decide +kernel)⟩
theorem vl_RX4_160 : VLink RX4 160 yX1_countOpenTasks := ⟨tg 252 (by decide +kernel) (by decide +kernel), tg 253 (by decide +kernel) (by decide +kernel), tg 254 (by decide +kernel) (by decide +kernel), tg 25 (by decide +kernel) (by decide +kernel)⟩
theorem vl_RX1_66 : VLink RX1 66 yX3_size := ⟨tg 256 (by decide +kernel) (by decide +kernel), tg 249 (by decide +kernel) (by decide +kernel), tg 250 (by decide +kernel) (by decide +kernel), tg 26 (by decide +kernel) (by decide +kernel)⟩
theorem vl_RX1_124 : VLink RX1 124 yX1_isOpen := ⟨tg 257 (by decide +kernel) (by decide +kernel), tg 258 (by decide +kernel) (by decide +kernel), tg 259 (by decide +kernel) (by decide +kernel), tg 25 (by decide +kernel) (by decide +kernel)⟩
theorem vl_RX1_121 : VLink RX1 121 yX3_has := ⟨tg 261 (by decide +kernel) (by decide +kernel), tg 262 (by decide +kernel) (by decide +kernel), tg 263 (by decide +kernel) (by decide +kernel), tg 26 (by decide +kernel) (by decide +kernel)⟩
theorem vl_RX1_58 : VLink RX1 58 yX3_cell := ⟨tg 265 (by decide +kernel) (by decide +kernel), tg 230 (by decide +kernel) (by decide +kernel), tg 231 (by decide +kernel) (by decide +kernel), tg 26 (by decide +kernel) (by decide +kernel)⟩
theorem sl_RX4_73 : SLink RX4 73 yX4_bit := ⟨tg 269 (by decide +kernel) (by decide +kernel), tg 267 (by decide +kernel) (by decide +kernel), tg 24 (by decide +kernel) (by decide +kernel)⟩
theorem vl_RX4_169 : VLink RX4 169 yX1_spread := ⟨tg 270 (by decide +kernel) (by decide +kernel), tg 271 (by decide +kernel) (by decide +kernel), tg 272 (by decide +kernel) (by decide +kernel), tg 25 (by decide +kernel) (by decide +kernel)⟩
theorem vl_RX1_170 : VLink RX1 170 yX1_spreadOf := ⟨tg 274 (by decide +kernel) (by decide +kernel), tg 276 (by decide +kernel) (by decide +kernel), tg 2 (by decide +kernel) (by decide +kernel), tg 25 (by decide +kernel) (by decide +kernel)⟩
theorem vl_RX1_118 : VLink RX1 118 yX1_loadOf := ⟨tg 278 (by decide +kernel) (by decide +kernel), tg 279 (by decide +kernel) (by decide +kernel), tg 280 (by decide +kernel) (by decide +kernel), tg 25 (by decide +kernel) (by decide +kernel)⟩
theorem vl_RX1_174 : VLink RX1 174 yX1_rateOf := ⟨tg 282 (by decide +kernel) (by decide +kernel), tg 283 (by decide +kernel) (by decide +kernel), tg 284 (by decide +kernel) (by decide +kernel), tg 25 (by decide +kernel) (by decide +kernel)⟩
theorem jl_RX1_146 : Cond.methodLink RX1 146 Lib.Math.min.name ∈ TG := tg 286 (by decide +kernel) (by decide +kernel)
theorem jl_RX1_69 : Cond.methodLink RX1 69 Lib.Math.max.name ∈ TG := tg 287 (by decide +kernel) (by decide +kernel)
theorem vl_RX4_172 : VLink RX4 172 yX1_plannedSpread := ⟨tg 288 (by decide +kernel) (by decide +kernel), tg 289 (by decide +kernel) (by decide +kernel), tg 290 (by decide +kernel) (by decide +kernel), tg 25 (by decide +kernel) (by decide +kernel)⟩
theorem vl_RX4_107 : VLink RX4 107 yX3_cell := ⟨tg 292 (by decide +kernel) (by decide +kernel), tg 230 (by decide +kernel) (by decide +kernel), tg 231 (by decide +kernel) (by decide +kernel), tg 26 (by decide +kernel) (by decide +kernel)⟩
theorem sl_RL_63 : SLink RL 63 yL_plans := ⟨tg 293 (by decide +kernel) (by decide +kernel), tg 294 (by decide +kernel) (by decide +kernel), tg 23 (by decide +kernel) (by decide +kernel)⟩
theorem vl_RL_101 : VLink RL 101 yX4_plan := ⟨tg 296 (by decide +kernel) (by decide +kernel), tg 297 (by decide +kernel) (by decide +kernel), tg 298 (by decide +kernel) (by decide +kernel), tg 24 (by decide +kernel) (by decide +kernel)⟩
theorem vl_RX4_94 : VLink RX4 94 yX1_planWeek := ⟨tg 300 (by decide +kernel) (by decide +kernel), tg 301 (by decide +kernel) (by decide +kernel), tg 302 (by decide +kernel) (by decide +kernel), tg 25 (by decide +kernel) (by decide +kernel)⟩
theorem vl_RX1_77 : VLink RX1 77 yX1_leastLoaded := ⟨tg 304 (by decide +kernel) (by decide +kernel), tg 306 (by decide +kernel) (by decide +kernel), tg 3 (by decide +kernel) (by decide +kernel), tg 25 (by decide +kernel) (by decide +kernel)⟩
theorem vl_RX1_111 : VLink RX1 111 yX1_isAway := ⟨tg 308 (by decide +kernel) (by decide +kernel), tg 309 (by decide +kernel) (by decide +kernel), tg 310 (by decide +kernel) (by decide +kernel), tg 25 (by decide +kernel) (by decide +kernel)⟩
theorem vl_RX1_114 : VLink RX1 114 yX1_goesAhead := ⟨tg 313 (by decide +kernel) (by decide +kernel), tg 315 (by decide +kernel) (by decide +kernel), tg 4 (by decide +kernel) (by decide +kernel), tg 25 (by decide +kernel) (by decide +kernel)⟩
theorem vl_RX1_81 : VLink RX1 81 yX1_makeTasks := ⟨tg 317 (by decide +kernel) (by decide +kernel), tg 319 (by decide +kernel) (by decide +kernel), tg 5 (by decide +kernel) (by decide +kernel), tg 25 (by decide +kernel) (by decide +kernel)⟩
theorem vl_RX1_87 : VLink RX1 87 yX1_areaOfNextTask := ⟨tg 321 (by decide +kernel) (by decide +kernel), tg 323 (by decide +kernel) (by decide +kernel), tg 6 (by decide +kernel) (by decide +kernel), tg 25 (by decide +kernel) (by decide +kernel)⟩
theorem vl_RX1_90 : VLink RX1 90 yX1_effortOfTask := ⟨tg 325 (by decide +kernel) (by decide +kernel), tg 327 (by decide +kernel) (by decide +kernel), tg 7 (by decide +kernel) (by decide +kernel), tg 25 (by decide +kernel) (by decide +kernel)⟩
theorem vl_RX1_93 : VLink RX1 93 yX1_needsDeepClean := ⟨tg 329 (by decide +kernel) (by decide +kernel), tg 330 (by decide +kernel) (by decide +kernel), tg 331 (by decide +kernel) (by decide +kernel), tg 25 (by decide +kernel) (by decide +kernel)⟩
theorem vl_RX1_101 : VLink RX1 101 yX1_isDue := ⟨tg 333 (by decide +kernel) (by decide +kernel), tg 334 (by decide +kernel) (by decide +kernel), tg 335 (by decide +kernel) (by decide +kernel), tg 25 (by decide +kernel) (by decide +kernel)⟩
theorem vl_RX1_97 : VLink RX1 97 yX1_addTask := ⟨tg 337 (by decide +kernel) (by decide +kernel), tg 339 (by decide +kernel) (by decide +kernel), tg 8 (by decide +kernel) (by decide +kernel), tg 25 (by decide +kernel) (by decide +kernel)⟩
theorem vl_RX1_84 : VLink RX1 84 yX1_giveTasks := ⟨tg 341 (by decide +kernel) (by decide +kernel), tg 343 (by decide +kernel) (by decide +kernel), tg 9 (by decide +kernel) (by decide +kernel), tg 25 (by decide +kernel) (by decide +kernel)⟩
theorem vl_RX1_108 : VLink RX1 108 yX1_hasTwinAhead := ⟨tg 345 (by decide +kernel) (by decide +kernel), tg 347 (by decide +kernel) (by decide +kernel), tg 10 (by decide +kernel) (by decide +kernel), tg 25 (by decide +kernel) (by decide +kernel)⟩
theorem vl_RX1_74 : VLink RX1 74 yX3_increase := ⟨tg 349 (by decide +kernel) (by decide +kernel), tg 350 (by decide +kernel) (by decide +kernel), tg 351 (by decide +kernel) (by decide +kernel), tg 26 (by decide +kernel) (by decide +kernel)⟩
theorem vl_RL_98 : VLink RL 98 yX4_about := ⟨tg 353 (by decide +kernel) (by decide +kernel), tg 354 (by decide +kernel) (by decide +kernel), tg 355 (by decide +kernel) (by decide +kernel), tg 24 (by decide +kernel) (by decide +kernel)⟩
theorem vl_RX4_55 : VLink RX4 55 yX3_has := ⟨tg 357 (by decide +kernel) (by decide +kernel), tg 262 (by decide +kernel) (by decide +kernel), tg 263 (by decide +kernel) (by decide +kernel), tg 26 (by decide +kernel) (by decide +kernel)⟩
theorem vl_RX4_139 : VLink RX4 139 yX1_loadOf := ⟨tg 358 (by decide +kernel) (by decide +kernel), tg 279 (by decide +kernel) (by decide +kernel), tg 280 (by decide +kernel) (by decide +kernel), tg 25 (by decide +kernel) (by decide +kernel)⟩
theorem vl_RX4_142 : VLink RX4 142 yX1_rateOf := ⟨tg 359 (by decide +kernel) (by decide +kernel), tg 283 (by decide +kernel) (by decide +kernel), tg 284 (by decide +kernel) (by decide +kernel), tg 25 (by decide +kernel) (by decide +kernel)⟩
theorem vl_RX4_145 : VLink RX4 145 yX1_countOpenTasksOf := ⟨tg 360 (by decide +kernel) (by decide +kernel), tg 361 (by decide +kernel) (by decide +kernel), tg 362 (by decide +kernel) (by decide +kernel), tg 25 (by decide +kernel) (by decide +kernel)⟩
theorem vl_RX1_127 : VLink RX1 127 yX1_isOpenTaskOf := ⟨tg 364 (by decide +kernel) (by decide +kernel), tg 365 (by decide +kernel) (by decide +kernel), tg 366 (by decide +kernel) (by decide +kernel), tg 25 (by decide +kernel) (by decide +kernel)⟩
theorem vl_RX4_148 : VLink RX4 148 yX1_firstOpenTaskOf := ⟨tg 368 (by decide +kernel) (by decide +kernel), tg 369 (by decide +kernel) (by decide +kernel), tg 370 (by decide +kernel) (by decide +kernel), tg 25 (by decide +kernel) (by decide +kernel)⟩
theorem vl_RX4_70 : VLink RX4 70 yX1_isAway := ⟨tg 372 (by decide +kernel) (by decide +kernel), tg 309 (by decide +kernel) (by decide +kernel), tg 310 (by decide +kernel) (by decide +kernel), tg 25 (by decide +kernel) (by decide +kernel)⟩
theorem vl_RL_104 : VLink RL 104 yX4_room := ⟨tg 373 (by decide +kernel) (by decide +kernel), tg 374 (by decide +kernel) (by decide +kernel), tg 375 (by decide +kernel) (by decide +kernel), tg 24 (by decide +kernel) (by decide +kernel)⟩
theorem vl_RX4_151 : VLink RX4 151 yX1_needsDeepClean := ⟨tg 377 (by decide +kernel) (by decide +kernel), tg 330 (by decide +kernel) (by decide +kernel), tg 331 (by decide +kernel) (by decide +kernel), tg 25 (by decide +kernel) (by decide +kernel)⟩
theorem vl_RX4_154 : VLink RX4 154 yX1_isDue := ⟨tg 378 (by decide +kernel) (by decide +kernel), tg 334 (by decide +kernel) (by decide +kernel), tg 335 (by decide +kernel) (by decide +kernel), tg 25 (by decide +kernel) (by decide +kernel)⟩
theorem vl_RL_107 : VLink RL 107 yX4_task := ⟨tg 379 (by decide +kernel) (by decide +kernel), tg 380 (by decide +kernel) (by decide +kernel), tg 381 (by decide +kernel) (by decide +kernel), tg 24 (by decide +kernel) (by decide +kernel)⟩
theorem vl_RL_66 : VLink RL 66 yX4_done := ⟨tg 383 (by decide +kernel) (by decide +kernel), tg 384 (by decide +kernel) (by decide +kernel), tg 385 (by decide +kernel) (by decide +kernel), tg 24 (by decide +kernel) (by decide +kernel)⟩
theorem vl_RX4_101 : VLink RX4 101 yX1_isOpen := ⟨tg 387 (by decide +kernel) (by decide +kernel), tg 258 (by decide +kernel) (by decide +kernel), tg 259 (by decide +kernel) (by decide +kernel), tg 25 (by decide +kernel) (by decide +kernel)⟩
theorem vl_RX4_104 : VLink RX4 104 yX1_finish := ⟨tg 388 (by decide +kernel) (by decide +kernel), tg 389 (by decide +kernel) (by decide +kernel), tg 390 (by decide +kernel) (by decide +kernel), tg 25 (by decide +kernel) (by decide +kernel)⟩
theorem vl_RX1_130 : VLink RX1 130 yX1_isTwinOpen := ⟨tg 392 (by decide +kernel) (by decide +kernel), tg 394 (by decide +kernel) (by decide +kernel), tg 11 (by decide +kernel) (by decide +kernel), tg 25 (by decide +kernel) (by decide +kernel)⟩
theorem vl_RX1_133 : VLink RX1 133 yX1_clean := ⟨tg 396 (by decide +kernel) (by decide +kernel), tg 398 (by decide +kernel) (by decide +kernel), tg 12 (by decide +kernel) (by decide +kernel), tg 25 (by decide +kernel) (by decide +kernel)⟩
theorem vl_RX1_137 : VLink RX1 137 yX1_dropSwapsWith := ⟨tg 400 (by decide +kernel) (by decide +kernel), tg 402 (by decide +kernel) (by decide +kernel), tg 13 (by decide +kernel) (by decide +kernel), tg 25 (by decide +kernel) (by decide +kernel)⟩
theorem vl_RX1_164 : VLink RX1 164 yX3_remove := ⟨tg 404 (by decide +kernel) (by decide +kernel), tg 405 (by decide +kernel) (by decide +kernel), tg 406 (by decide +kernel) (by decide +kernel), tg 26 (by decide +kernel) (by decide +kernel)⟩
theorem vl_RX3_42 : VLink RX3 42 yX3_has := ⟨tg 408 (by decide +kernel) (by decide +kernel), tg 262 (by decide +kernel) (by decide +kernel), tg 263 (by decide +kernel) (by decide +kernel), tg 26 (by decide +kernel) (by decide +kernel)⟩
theorem sl_RL_69 : SLink RL 69 yL_does := ⟨tg 409 (by decide +kernel) (by decide +kernel), tg 410 (by decide +kernel) (by decide +kernel), tg 23 (by decide +kernel) (by decide +kernel)⟩
theorem vl_RL_110 : VLink RL 110 yX4_swap := ⟨tg 412 (by decide +kernel) (by decide +kernel), tg 413 (by decide +kernel) (by decide +kernel), tg 414 (by decide +kernel) (by decide +kernel), tg 24 (by decide +kernel) (by decide +kernel)⟩
theorem vl_RL_72 : VLink RL 72 yX4_end := ⟨tg 416 (by decide +kernel) (by decide +kernel), tg 417 (by decide +kernel) (by decide +kernel), tg 418 (by decide +kernel) (by decide +kernel), tg 24 (by decide +kernel) (by decide +kernel)⟩
theorem vl_RX4_118 : VLink RX4 118 yX1_endWeek := ⟨tg 420 (by decide +kernel) (by decide +kernel), tg 421 (by decide +kernel) (by decide +kernel), tg 422 (by decide +kernel) (by decide +kernel), tg 25 (by decide +kernel) (by decide +kernel)⟩
theorem vl_RX1_149 : VLink RX1 149 yX1_countOpenTasks := ⟨tg 424 (by decide +kernel) (by decide +kernel), tg 253 (by decide +kernel) (by decide +kernel), tg 254 (by decide +kernel) (by decide +kernel), tg 25 (by decide +kernel) (by decide +kernel)⟩
theorem vl_RX1_152 : VLink RX1 152 yX1_skip := ⟨tg 425 (by decide +kernel) (by decide +kernel), tg 427 (by decide +kernel) (by decide +kernel), tg 14 (by decide +kernel) (by decide +kernel), tg 25 (by decide +kernel) (by decide +kernel)⟩
theorem vl_RX1_155 : VLink RX1 155 yX3_clear := ⟨tg 429 (by decide +kernel) (by decide +kernel), tg 430 (by decide +kernel) (by decide +kernel), tg 431 (by decide +kernel) (by decide +kernel), tg 26 (by decide +kernel) (by decide +kernel)⟩
theorem vl_RX1_158 : VLink RX1 158 yX1_decayPoints := ⟨tg 433 (by decide +kernel) (by decide +kernel), tg 435 (by decide +kernel) (by decide +kernel), tg 15 (by decide +kernel) (by decide +kernel), tg 25 (by decide +kernel) (by decide +kernel)⟩
theorem vl_RX1_161 : VLink RX1 161 yX1_growDirt := ⟨tg 437 (by decide +kernel) (by decide +kernel), tg 439 (by decide +kernel) (by decide +kernel), tg 16 (by decide +kernel) (by decide +kernel), tg 25 (by decide +kernel) (by decide +kernel)⟩
theorem sl_RL_76 : SLink RL 76 yL_ends := ⟨tg 441 (by decide +kernel) (by decide +kernel), tg 442 (by decide +kernel) (by decide +kernel), tg 23 (by decide +kernel) (by decide +kernel)⟩
theorem sl_RL_79 : SLink RL 79 yL_extra := ⟨tg 444 (by decide +kernel) (by decide +kernel), tg 445 (by decide +kernel) (by decide +kernel), tg 23 (by decide +kernel) (by decide +kernel)⟩
theorem vl_RL_113 : VLink RL 113 yX4_extra := ⟨tg 447 (by decide +kernel) (by decide +kernel), tg 448 (by decide +kernel) (by decide +kernel), tg 449 (by decide +kernel) (by decide +kernel), tg 24 (by decide +kernel) (by decide +kernel)⟩
theorem vl_RX4_111 : VLink RX4 111 yX1_payDebt := ⟨tg 451 (by decide +kernel) (by decide +kernel), tg 452 (by decide +kernel) (by decide +kernel), tg 453 (by decide +kernel) (by decide +kernel), tg 25 (by decide +kernel) (by decide +kernel)⟩
theorem vl_RL_83 : VLink RL 83 yX4_propose := ⟨tg 455 (by decide +kernel) (by decide +kernel), tg 456 (by decide +kernel) (by decide +kernel), tg 457 (by decide +kernel) (by decide +kernel), tg 24 (by decide +kernel) (by decide +kernel)⟩
theorem vl_RX4_121 : VLink RX4 121 yX1_canExchange := ⟨tg 459 (by decide +kernel) (by decide +kernel), tg 460 (by decide +kernel) (by decide +kernel), tg 461 (by decide +kernel) (by decide +kernel), tg 25 (by decide +kernel) (by decide +kernel)⟩
theorem vl_RX4_124 : VLink RX4 124 yX1_isProposed := ⟨tg 463 (by decide +kernel) (by decide +kernel), tg 464 (by decide +kernel) (by decide +kernel), tg 465 (by decide +kernel) (by decide +kernel), tg 25 (by decide +kernel) (by decide +kernel)⟩
theorem vl_RX4_130 : VLink RX4 130 yX1_addSwap := ⟨tg 467 (by decide +kernel) (by decide +kernel), tg 468 (by decide +kernel) (by decide +kernel), tg 469 (by decide +kernel) (by decide +kernel), tg 25 (by decide +kernel) (by decide +kernel)⟩
theorem sl_RL_86 : SLink RL 86 yL_proposes := ⟨tg 471 (by decide +kernel) (by decide +kernel), tg 472 (by decide +kernel) (by decide +kernel), tg 23 (by decide +kernel) (by decide +kernel)⟩
theorem vl_RL_89 : VLink RL 89 yX4_answer := ⟨tg 474 (by decide +kernel) (by decide +kernel), tg 475 (by decide +kernel) (by decide +kernel), tg 476 (by decide +kernel) (by decide +kernel), tg 24 (by decide +kernel) (by decide +kernel)⟩
theorem vl_RX4_133 : VLink RX4 133 yX1_acceptSwap := ⟨tg 478 (by decide +kernel) (by decide +kernel), tg 479 (by decide +kernel) (by decide +kernel), tg 480 (by decide +kernel) (by decide +kernel), tg 25 (by decide +kernel) (by decide +kernel)⟩
theorem vl_RX1_167 : VLink RX1 167 yX1_gainOfExchange := ⟨tg 482 (by decide +kernel) (by decide +kernel), tg 484 (by decide +kernel) (by decide +kernel), tg 17 (by decide +kernel) (by decide +kernel), tg 25 (by decide +kernel) (by decide +kernel)⟩
theorem vl_RX4_136 : VLink RX4 136 yX1_declineSwap := ⟨tg 486 (by decide +kernel) (by decide +kernel), tg 487 (by decide +kernel) (by decide +kernel), tg 488 (by decide +kernel) (by decide +kernel), tg 25 (by decide +kernel) (by decide +kernel)⟩
theorem sl_RL_92 : SLink RL 92 yL_answers := ⟨tg 490 (by decide +kernel) (by decide +kernel), tg 491 (by decide +kernel) (by decide +kernel), tg 23 (by decide +kernel) (by decide +kernel)⟩
theorem vl_RL_95 : VLink RL 95 yX4_away := ⟨tg 493 (by decide +kernel) (by decide +kernel), tg 494 (by decide +kernel) (by decide +kernel), tg 495 (by decide +kernel) (by decide +kernel), tg 24 (by decide +kernel) (by decide +kernel)⟩
theorem vl_RX4_66 : VLink RX4 66 yX3_write := ⟨tg 497 (by decide +kernel) (by decide +kernel), tg 77 (by decide +kernel) (by decide +kernel), tg 78 (by decide +kernel) (by decide +kernel), tg 26 (by decide +kernel) (by decide +kernel)⟩
theorem sl_RL_41 : SLink RL 41 yL_spreads := ⟨tg 498 (by decide +kernel) (by decide +kernel), tg 499 (by decide +kernel) (by decide +kernel), tg 23 (by decide +kernel) (by decide +kernel)⟩
theorem vl_RL_115 : VLink RL 115 yX4_forecast := ⟨tg 501 (by decide +kernel) (by decide +kernel), tg 502 (by decide +kernel) (by decide +kernel), tg 503 (by decide +kernel) (by decide +kernel), tg 24 (by decide +kernel) (by decide +kernel)⟩
theorem vl_RX4_181 : VLink RX4 181 yX1_copyFrom := ⟨tg 505 (by decide +kernel) (by decide +kernel), tg 193 (by decide +kernel) (by decide +kernel), tg 194 (by decide +kernel) (by decide +kernel), tg 25 (by decide +kernel) (by decide +kernel)⟩
theorem vl_RX4_184 : VLink RX4 184 yX1_countOpenDeepTasks := ⟨tg 506 (by decide +kernel) (by decide +kernel), tg 507 (by decide +kernel) (by decide +kernel), tg 508 (by decide +kernel) (by decide +kernel), tg 25 (by decide +kernel) (by decide +kernel)⟩
theorem vl_RX4_187 : VLink RX4 187 yX1_finishOpenTasks := ⟨tg 510 (by decide +kernel) (by decide +kernel), tg 511 (by decide +kernel) (by decide +kernel), tg 512 (by decide +kernel) (by decide +kernel), tg 25 (by decide +kernel) (by decide +kernel)⟩
theorem vl_RX1_143 : VLink RX1 143 yX1_finishFromTo := ⟨tg 514 (by decide +kernel) (by decide +kernel), tg 515 (by decide +kernel) (by decide +kernel), tg 516 (by decide +kernel) (by decide +kernel), tg 25 (by decide +kernel) (by decide +kernel)⟩
theorem vl_RX1_140 : VLink RX1 140 yX1_finish := ⟨tg 518 (by decide +kernel) (by decide +kernel), tg 389 (by decide +kernel) (by decide +kernel), tg 390 (by decide +kernel) (by decide +kernel), tg 25 (by decide +kernel) (by decide +kernel)⟩
theorem vl_RX4_190 : VLink RX4 190 yX1_greatestDirt := ⟨tg 519 (by decide +kernel) (by decide +kernel), tg 520 (by decide +kernel) (by decide +kernel), tg 521 (by decide +kernel) (by decide +kernel), tg 25 (by decide +kernel) (by decide +kernel)⟩
theorem sl_RL_45 : SLink RL 45 yL_open := ⟨tg 523 (by decide +kernel) (by decide +kernel), tg 524 (by decide +kernel) (by decide +kernel), tg 23 (by decide +kernel) (by decide +kernel)⟩
theorem sl_RL_48 : SLink RL 48 yL_comes := ⟨tg 526 (by decide +kernel) (by decide +kernel), tg 527 (by decide +kernel) (by decide +kernel), tg 23 (by decide +kernel) (by decide +kernel)⟩
theorem vl_RL_118 : VLink RL 118 yX4_wipe := ⟨tg 529 (by decide +kernel) (by decide +kernel), tg 530 (by decide +kernel) (by decide +kernel), tg 531 (by decide +kernel) (by decide +kernel), tg 24 (by decide +kernel) (by decide +kernel)⟩
theorem vl_RL_123 : VLink RL 123 yX4_put := ⟨tg 534 (by decide +kernel) (by decide +kernel), tg 535 (by decide +kernel) (by decide +kernel), tg 536 (by decide +kernel) (by decide +kernel), tg 24 (by decide +kernel) (by decide +kernel)⟩
theorem sl_RX4_196 : SLink RX4 196 yX2_countCharacters := ⟨tg 538 (by decide +kernel) (by decide +kernel), tg 539 (by decide +kernel) (by decide +kernel), tg 29 (by decide +kernel) (by decide +kernel)⟩
theorem vl_RX4_200 : VLink RX4 200 yX2_append := ⟨tg 543 (by decide +kernel) (by decide +kernel), tg 544 (by decide +kernel) (by decide +kernel), tg 545 (by decide +kernel) (by decide +kernel), tg 29 (by decide +kernel) (by decide +kernel)⟩
theorem vl_RL_127 : VLink RL 127 yX4_load := ⟨tg 547 (by decide +kernel) (by decide +kernel), tg 548 (by decide +kernel) (by decide +kernel), tg 549 (by decide +kernel) (by decide +kernel), tg 24 (by decide +kernel) (by decide +kernel)⟩
theorem vl_RX4_204 : VLink RX4 204 yX2_read := ⟨tg 551 (by decide +kernel) (by decide +kernel), tg 552 (by decide +kernel) (by decide +kernel), tg 553 (by decide +kernel) (by decide +kernel), tg 29 (by decide +kernel) (by decide +kernel)⟩
theorem vl_RX2_38 : VLink RX2 38 yX3_clear := ⟨tg 555 (by decide +kernel) (by decide +kernel), tg 430 (by decide +kernel) (by decide +kernel), tg 431 (by decide +kernel) (by decide +kernel), tg 26 (by decide +kernel) (by decide +kernel)⟩
theorem vl_RX2_41 : VLink RX2 41 yX2_endOfNumber := ⟨tg 556 (by decide +kernel) (by decide +kernel), tg 558 (by decide +kernel) (by decide +kernel), tg 18 (by decide +kernel) (by decide +kernel), tg 29 (by decide +kernel) (by decide +kernel)⟩
theorem vl_RX2_59 : VLink RX2 59 yX2_isDigitAt := ⟨tg 560 (by decide +kernel) (by decide +kernel), tg 562 (by decide +kernel) (by decide +kernel), tg 19 (by decide +kernel) (by decide +kernel), tg 29 (by decide +kernel) (by decide +kernel)⟩
theorem vl_RX2_34 : VLink RX2 34 yX2_characterAt := ⟨tg 564 (by decide +kernel) (by decide +kernel), tg 566 (by decide +kernel) (by decide +kernel), tg 20 (by decide +kernel) (by decide +kernel), tg 29 (by decide +kernel) (by decide +kernel)⟩
theorem vl_RX2_44 : VLink RX2 44 yX2_numberIn := ⟨tg 568 (by decide +kernel) (by decide +kernel), tg 570 (by decide +kernel) (by decide +kernel), tg 21 (by decide +kernel) (by decide +kernel), tg 29 (by decide +kernel) (by decide +kernel)⟩
theorem vl_RX2_48 : VLink RX2 48 yX2_addPart := ⟨tg 572 (by decide +kernel) (by decide +kernel), tg 574 (by decide +kernel) (by decide +kernel), tg 22 (by decide +kernel) (by decide +kernel), tg 29 (by decide +kernel) (by decide +kernel)⟩
theorem vl_RX2_51 : VLink RX2 51 yX3_append := ⟨tg 576 (by decide +kernel) (by decide +kernel), tg 69 (by decide +kernel) (by decide +kernel), tg 70 (by decide +kernel) (by decide +kernel), tg 26 (by decide +kernel) (by decide +kernel)⟩
theorem vl_RX2_55 : VLink RX2 55 yX3_write := ⟨tg 577 (by decide +kernel) (by decide +kernel), tg 77 (by decide +kernel) (by decide +kernel), tg 78 (by decide +kernel) (by decide +kernel), tg 26 (by decide +kernel) (by decide +kernel)⟩
theorem vl_RX4_210 : VLink RX4 210 yX1_finishFromTo := ⟨tg 578 (by decide +kernel) (by decide +kernel), tg 515 (by decide +kernel) (by decide +kernel), tg 516 (by decide +kernel) (by decide +kernel), tg 25 (by decide +kernel) (by decide +kernel)⟩
theorem vl_RL_130 : VLink RL 130 yX4_undo := ⟨tg 579 (by decide +kernel) (by decide +kernel), tg 580 (by decide +kernel) (by decide +kernel), tg 581 (by decide +kernel) (by decide +kernel), tg 24 (by decide +kernel) (by decide +kernel)⟩
theorem vl_RX4_214 : VLink RX4 214 yX0_restore := ⟨tg 583 (by decide +kernel) (by decide +kernel), tg 584 (by decide +kernel) (by decide +kernel), tg 585 (by decide +kernel) (by decide +kernel), tg 28 (by decide +kernel) (by decide +kernel)⟩
theorem sl_RL_51 : SLink RL 51 yL_fair := ⟨tg 587 (by decide +kernel) (by decide +kernel), tg 588 (by decide +kernel) (by decide +kernel), tg 23 (by decide +kernel) (by decide +kernel)⟩
theorem vl_RL_134 : VLink RL 134 yX4_fairer := ⟨tg 591 (by decide +kernel) (by decide +kernel), tg 592 (by decide +kernel) (by decide +kernel), tg 593 (by decide +kernel) (by decide +kernel), tg 24 (by decide +kernel) (by decide +kernel)⟩
theorem vl_RX4_193 : VLink RX4 193 yX1_spreadIfExchanged := ⟨tg 595 (by decide +kernel) (by decide +kernel), tg 596 (by decide +kernel) (by decide +kernel), tg 597 (by decide +kernel) (by decide +kernel), tg 25 (by decide +kernel) (by decide +kernel)⟩
theorem sl_RL_54 : SLink RL 54 yL_told := ⟨tg 599 (by decide +kernel) (by decide +kernel), tg 600 (by decide +kernel) (by decide +kernel), tg 23 (by decide +kernel) (by decide +kernel)⟩
theorem vl_RL_139 : VLink RL 139 yX4_fault := ⟨tg 603 (by decide +kernel) (by decide +kernel), tg 604 (by decide +kernel) (by decide +kernel), tg 605 (by decide +kernel) (by decide +kernel), tg 24 (by decide +kernel) (by decide +kernel)⟩
theorem sl_RL_57 : SLink RL 57 yL_back := ⟨tg 607 (by decide +kernel) (by decide +kernel), tg 608 (by decide +kernel) (by decide +kernel), tg 23 (by decide +kernel) (by decide +kernel)⟩
theorem vl_RL_142 : VLink RL 142 yX4_weigh := ⟨tg 610 (by decide +kernel) (by decide +kernel), tg 611 (by decide +kernel) (by decide +kernel), tg 612 (by decide +kernel) (by decide +kernel), tg 24 (by decide +kernel) (by decide +kernel)⟩
theorem sl_RL_18 : SLink RL 18 yL_refused := ⟨tg 614 (by decide +kernel) (by decide +kernel), tg 615 (by decide +kernel) (by decide +kernel), tg 23 (by decide +kernel) (by decide +kernel)⟩
theorem j_max : Cond.static Lib.Math.max.name ∈ TG ∧ Cond.initialized "java/lang/Math" ∈ TG ∧ Cond.code Lib.Math.max.name Lib.Math.max.code 2 (some .int) ∈ TG := ⟨tg 52 (by decide +kernel) (by decide +kernel), tg 27 (by decide +kernel) (by decide +kernel), tg 53 (by decide +kernel) (by decide +kernel)⟩
theorem j_min : Cond.static Lib.Math.min.name ∈ TG ∧ Cond.initialized "java/lang/Math" ∈ TG ∧ Cond.code Lib.Math.min.name Lib.Math.min.code 2 (some .int) ∈ TG := ⟨tg 201 (by decide +kernel) (by decide +kernel), tg 27 (by decide +kernel) (by decide +kernel), tg 202 (by decide +kernel) (by decide +kernel)⟩
theorem j_cpy : Cond.native arraycopyName ∈ TG ∧ Cond.static arraycopyName ∈ TG ∧ Cond.initialized "java/lang/System" ∈ TG := ⟨tg 205 (by decide +kernel) (by decide +kernel), tg 204 (by decide +kernel) (by decide +kernel), tg 30 (by decide +kernel) (by decide +kernel)⟩
theorem ki_RL_7 : Cond.constant RL 7 73244475 ∈ TG := tg 236 (by decide +kernel) (by decide +kernel)
theorem ki_RL_8 : Cond.constant RL 8 2147483647 ∈ TG := tg 240 (by decide +kernel) (by decide +kernel)
theorem kl_RL_121 : Cond.constantLong RL 121 808270137 ∈ TG := tg 533 (by decide +kernel) (by decide +kernel)
theorem kl_RX2_24 : Cond.constantLong RX2 24 255 ∈ TG := tg 541 (by decide +kernel) (by decide +kernel)
theorem ki_RL_133 : Cond.constant RL 133 1000000000 ∈ TG := tg 590 (by decide +kernel) (by decide +kernel)
theorem kl_RL_137 : Cond.constantLong RL 137 11520 ∈ TG := tg 602 (by decide +kernel) (by decide +kernel)
theorem ki_RL_145 : Cond.constant RL 145 1000000 ∈ TG := tg 617 (by decide +kernel) (by decide +kernel)
theorem nl_X4_bit : NLink yX4_bit := ⟨tg 267 (by decide +kernel) (by decide +kernel), tg 24 (by decide +kernel) (by decide +kernel)⟩
theorem nl_X4_isIn : NLink yX4_isIn := ⟨tg 177 (by decide +kernel) (by decide +kernel), tg 24 (by decide +kernel) (by decide +kernel)⟩
def nestWs : List Cond := [Cond.methodLinkNest RX1 104 yX4_bit RX4, Cond.methodLinkNest RX1 62 yX4_isIn RX4, Cond.methodLinkNest RX2 26 yX4_isIn RX4, Cond.fieldLinkNest RX4 37 RX1 "residents" "LCleaningRota$Table;" RX4, Cond.fieldLinkNest RX4 77 RX1 "areas" "LCleaningRota$Table;" RX4, Cond.fieldLinkNest RX4 98 RX1 "tasks" "LCleaningRota$Table;" RX4, Cond.fieldLinkNest RX4 127 RX1 "swaps" "LCleaningRota$Table;" RX4, Cond.fieldLinkNest RX4 87 RX1 "settings" "LCleaningRota$Table;" RX4, Cond.fieldLinkNest RX4 114 RX1 "week" "I" RX4, Cond.fieldLinkNest RX4 90 RX1 "isPlanned" "Z" RX4, Cond.fieldLinkNest RX4 163 RX1 "tasksDone" "I" RX4, Cond.fieldLinkNest RX4 166 RX1 "tasksSkipped" "I" RX4, Cond.fieldLinkNest RX4 178 RX0 "kept" "I" RX4, Cond.fieldLinkNest RX4 175 RX2 "length" "I" RX4, Cond.fieldLinkNest RX4 207 RX2 "parts" "LCleaningRota$Table;" RX4]
theorem nest_in : ∀ w ∈ nestWs, w ∈ lw_tbl := by
  intro w hw
  have h : nestWs = [266, 312, 542, 82, 84, 86, 88, 90, 92, 94, 96, 98, 129, 145, 147].filterMap (fun i => lw_tbl[i]?) := by decide +kernel
  rw [h] at hw
  obtain ⟨i, -, hi⟩ := List.mem_filterMap.mp hw
  exact List.mem_of_getElem? hi
-- the field links of a class: pool number, class, field
def FLw (own : String) (e : Nat × Nat × Nat) : Prop := ∃ r : vw_C, vwCl[e.2.1]? = some r ∧ e.2.2 < r.2.2 ∧ r.1 = (r.2.1 e.2.2).1 ∧ (Cond.fieldLink own e.1 r.1 (r.2.1 e.2.2).2.1 (r.2.1 e.2.2).2.2.1 ∈ TG ∨ Cond.fieldLinkNest own e.1 r.1 (r.2.1 e.2.2).2.1 (r.2.1 e.2.2).2.2.1 RX4 ∈ nestWs)
def fl0 : List (Nat × Nat × Nat) := [(11, 0, 0), (16, 0, 1)]
theorem fl0_ok : ∀ e ∈ fl0, FLw RX0 e := List.forall_mem_cons.mpr ⟨⟨_, rfl, by decide +kernel, by decide +kernel, Or.inl (tg 127 (by decide +kernel) (by decide +kernel))⟩, List.forall_mem_cons.mpr ⟨⟨_, rfl, by decide +kernel, by decide +kernel, Or.inl (tg 128 (by decide +kernel) (by decide +kernel))⟩, fun _ h => absurd h List.not_mem_nil⟩⟩
def fl1 : List (Nat × Nat × Nat) := [(16, 1, 0), (20, 1, 1), (23, 1, 2), (26, 1, 3), (29, 1, 4), (44, 1, 5), (48, 1, 6), (52, 1, 7), (55, 1, 8)]
theorem fl1_ok : ∀ e ∈ fl1, FLw RX1 e := List.forall_mem_cons.mpr ⟨⟨_, rfl, by decide +kernel, by decide +kernel, Or.inl (tg 81 (by decide +kernel) (by decide +kernel))⟩, List.forall_mem_cons.mpr ⟨⟨_, rfl, by decide +kernel, by decide +kernel, Or.inl (tg 83 (by decide +kernel) (by decide +kernel))⟩, List.forall_mem_cons.mpr ⟨⟨_, rfl, by decide +kernel, by decide +kernel, Or.inl (tg 85 (by decide +kernel) (by decide +kernel))⟩, List.forall_mem_cons.mpr ⟨⟨_, rfl, by decide +kernel, by decide +kernel, Or.inl (tg 87 (by decide +kernel) (by decide +kernel))⟩, List.forall_mem_cons.mpr ⟨⟨_, rfl, by decide +kernel, by decide +kernel, Or.inl (tg 89 (by decide +kernel) (by decide +kernel))⟩, List.forall_mem_cons.mpr ⟨⟨_, rfl, by decide +kernel, by decide +kernel, Or.inl (tg 91 (by decide +kernel) (by decide +kernel))⟩, List.forall_mem_cons.mpr ⟨⟨_, rfl, by decide +kernel, by decide +kernel, Or.inl (tg 93 (by decide +kernel) (by decide +kernel))⟩, List.forall_mem_cons.mpr ⟨⟨_, rfl, by decide +kernel, by decide +kernel, Or.inl (tg 95 (by decide +kernel) (by decide +kernel))⟩, List.forall_mem_cons.mpr ⟨⟨_, rfl, by decide +kernel, by decide +kernel, Or.inl (tg 97 (by decide +kernel) (by decide +kernel))⟩, fun _ h => absurd h List.not_mem_nil⟩⟩⟩⟩⟩⟩⟩⟩⟩
def fl2 : List (Nat × Nat × Nat) := [(9, 2, 0), (30, 2, 1), (20, 2, 2)]
theorem fl2_ok : ∀ e ∈ fl2, FLw RX2 e := List.forall_mem_cons.mpr ⟨⟨_, rfl, by decide +kernel, by decide +kernel, Or.inl (tg 143 (by decide +kernel) (by decide +kernel))⟩, List.forall_mem_cons.mpr ⟨⟨_, rfl, by decide +kernel, by decide +kernel, Or.inl (tg 144 (by decide +kernel) (by decide +kernel))⟩, List.forall_mem_cons.mpr ⟨⟨_, rfl, by decide +kernel, by decide +kernel, Or.inl (tg 146 (by decide +kernel) (by decide +kernel))⟩, fun _ h => absurd h List.not_mem_nil⟩⟩⟩
def fl3 : List (Nat × Nat × Nat) := [(9, 3, 0), (15, 3, 1), (24, 3, 2), (28, 3, 3)]
theorem fl3_ok : ∀ e ∈ fl3, FLw RX3 e := List.forall_mem_cons.mpr ⟨⟨_, rfl, by decide +kernel, by decide +kernel, Or.inl (tg 54 (by decide +kernel) (by decide +kernel))⟩, List.forall_mem_cons.mpr ⟨⟨_, rfl, by decide +kernel, by decide +kernel, Or.inl (tg 55 (by decide +kernel) (by decide +kernel))⟩, List.forall_mem_cons.mpr ⟨⟨_, rfl, by decide +kernel, by decide +kernel, Or.inl (tg 56 (by decide +kernel) (by decide +kernel))⟩, List.forall_mem_cons.mpr ⟨⟨_, rfl, by decide +kernel, by decide +kernel, Or.inl (tg 57 (by decide +kernel) (by decide +kernel))⟩, fun _ h => absurd h List.not_mem_nil⟩⟩⟩⟩
def fl4 : List (Nat × Nat × Nat) := [(10, 4, 0), (16, 4, 1), (22, 4, 2), (29, 4, 3), (37, 1, 0), (77, 1, 1), (98, 1, 2), (127, 1, 3), (87, 1, 4), (114, 1, 5), (90, 1, 6), (163, 1, 7), (166, 1, 8), (178, 0, 1), (175, 2, 1), (207, 2, 2)]
theorem fl4_ok : ∀ e ∈ fl4, FLw RX4 e := List.forall_mem_cons.mpr ⟨⟨_, rfl, by decide +kernel, by decide +kernel, Or.inl (tg 156 (by decide +kernel) (by decide +kernel))⟩, List.forall_mem_cons.mpr ⟨⟨_, rfl, by decide +kernel, by decide +kernel, Or.inl (tg 157 (by decide +kernel) (by decide +kernel))⟩, List.forall_mem_cons.mpr ⟨⟨_, rfl, by decide +kernel, by decide +kernel, Or.inl (tg 158 (by decide +kernel) (by decide +kernel))⟩, List.forall_mem_cons.mpr ⟨⟨_, rfl, by decide +kernel, by decide +kernel, Or.inl (tg 159 (by decide +kernel) (by decide +kernel))⟩, List.forall_mem_cons.mpr ⟨⟨_, rfl, by decide +kernel, by decide +kernel, Or.inr (by decide +kernel)⟩, List.forall_mem_cons.mpr ⟨⟨_, rfl, by decide +kernel, by decide +kernel, Or.inr (by decide +kernel)⟩, List.forall_mem_cons.mpr ⟨⟨_, rfl, by decide +kernel, by decide +kernel, Or.inr (by decide +kernel)⟩, List.forall_mem_cons.mpr ⟨⟨_, rfl, by decide +kernel, by decide +kernel, Or.inr (by decide +kernel)⟩, List.forall_mem_cons.mpr ⟨⟨_, rfl, by decide +kernel, by decide +kernel, Or.inr (by decide +kernel)⟩, List.forall_mem_cons.mpr ⟨⟨_, rfl, by decide +kernel, by decide +kernel, Or.inr (by decide +kernel)⟩, List.forall_mem_cons.mpr ⟨⟨_, rfl, by decide +kernel, by decide +kernel, Or.inr (by decide +kernel)⟩, List.forall_mem_cons.mpr ⟨⟨_, rfl, by decide +kernel, by decide +kernel, Or.inr (by decide +kernel)⟩, List.forall_mem_cons.mpr ⟨⟨_, rfl, by decide +kernel, by decide +kernel, Or.inr (by decide +kernel)⟩, List.forall_mem_cons.mpr ⟨⟨_, rfl, by decide +kernel, by decide +kernel, Or.inr (by decide +kernel)⟩, List.forall_mem_cons.mpr ⟨⟨_, rfl, by decide +kernel, by decide +kernel, Or.inr (by decide +kernel)⟩, List.forall_mem_cons.mpr ⟨⟨_, rfl, by decide +kernel, by decide +kernel, Or.inr (by decide +kernel)⟩, fun _ h => absurd h List.not_mem_nil⟩⟩⟩⟩⟩⟩⟩⟩⟩⟩⟩⟩⟩⟩⟩⟩
theorem iw0 : ∀ w ∈ wsX00, w ∈ TG := by
  intro w hw
  have h : wsX00 = [130, 132].filterMap (fun i => lw_tbl[i]?) := by decide +kernel
  have g : wsX00.all goodWord = true := by decide +kernel
  have hg := List.all_eq_true.mp g w hw
  rw [h] at hw
  obtain ⟨i, -, hi⟩ := List.mem_filterMap.mp hw
  exact tg i hi hg
theorem iw1 : ∀ w ∈ wsX10, w ∈ TG := by
  intro w hw
  have h : wsX10 = [99, 101, 103, 105, 107, 109, 111, 113, 115].filterMap (fun i => lw_tbl[i]?) := by decide +kernel
  have g : wsX10.all goodWord = true := by decide +kernel
  have hg := List.all_eq_true.mp g w hw
  rw [h] at hw
  obtain ⟨i, -, hi⟩ := List.mem_filterMap.mp hw
  exact tg i hi hg
theorem iw2 : ∀ w ∈ wsX20, w ∈ TG := by
  intro w hw
  have h : wsX20 = [148, 150, 152].filterMap (fun i => lw_tbl[i]?) := by decide +kernel
  have g : wsX20.all goodWord = true := by decide +kernel
  have hg := List.all_eq_true.mp g w hw
  rw [h] at hw
  obtain ⟨i, -, hi⟩ := List.mem_filterMap.mp hw
  exact tg i hi hg
theorem iw3 : ∀ w ∈ wsX30, w ∈ TG := by
  intro w hw
  have h : wsX30 = [58, 60, 62, 64].filterMap (fun i => lw_tbl[i]?) := by decide +kernel
  have g : wsX30.all goodWord = true := by decide +kernel
  have hg := List.all_eq_true.mp g w hw
  rw [h] at hw
  obtain ⟨i, -, hi⟩ := List.mem_filterMap.mp hw
  exact tg i hi hg
theorem iw4 : ∀ w ∈ wsX40, w ∈ TG := by
  intro w hw
  have h : wsX40 = [160, 162, 164, 166].filterMap (fun i => lw_tbl[i]?) := by decide +kernel
  have g : wsX40.all goodWord = true := by decide +kernel
  have hg := List.all_eq_true.mp g w hw
  rw [h] at hw
  obtain ⟨i, -, hi⟩ := List.mem_filterMap.mp hw
  exact tg i hi hg
