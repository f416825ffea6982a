-- ===== PART A: goes FIRST, ahead of the names: the tables' words, and 'selects' of the private methods out of them =====
/-- a private method of a class that the tables say can be made, by its rows of tables_1 -/
def lw_okq (q : MethodName × Nat) : Prop := (q.1.cls ≠ "java/lang/invoke/MethodHandle" ∧ q.1.cls ≠ "java/lang/invoke/VarHandle") ∧ Cond.instantiable q.1.cls q.2 ∈ tables_1 ∧ Cond.privateMethod q.1 ∈ tables_1 ∧ Cond.instanceMethod q.1 ∈ tables_1
theorem lw_p0 : lw_okq (⟨"CleaningRota$History", "dropOldest", "()V"⟩, 2) := ⟨⟨by decide +kernel, by decide +kernel⟩, List.mem_of_getElem? (i := 96) (by decide +kernel), List.mem_of_getElem? (i := 162) (by decide +kernel), List.mem_of_getElem? (i := 163) (by decide +kernel)⟩
theorem lw_p1 : lw_okq (⟨"CleaningRota$History", "stateAt", "(I)LCleaningRota$House;"⟩, 2) := ⟨⟨by decide +kernel, by decide +kernel⟩, List.mem_of_getElem? (i := 96) (by decide +kernel), List.mem_of_getElem? (i := 166) (by decide +kernel), List.mem_of_getElem? (i := 167) (by decide +kernel)⟩
theorem lw_p2 : lw_okq (⟨"CleaningRota$House", "spreadOf", "(ZIII)I"⟩, 9) := ⟨⟨by decide +kernel, by decide +kernel⟩, List.mem_of_getElem? (i := 17) (by decide +kernel), List.mem_of_getElem? (i := 252) (by decide +kernel), List.mem_of_getElem? (i := 253) (by decide +kernel)⟩
theorem lw_p3 : lw_okq (⟨"CleaningRota$House", "leastLoaded", "(I)I"⟩, 9) := ⟨⟨by decide +kernel, by decide +kernel⟩, List.mem_of_getElem? (i := 17) (by decide +kernel), List.mem_of_getElem? (i := 282) (by decide +kernel), List.mem_of_getElem? (i := 283) (by decide +kernel)⟩
theorem lw_p4 : lw_okq (⟨"CleaningRota$House", "goesAhead", "(II)Z"⟩, 9) := ⟨⟨by decide +kernel, by decide +kernel⟩, List.mem_of_getElem? (i := 17) (by decide +kernel), List.mem_of_getElem? (i := 291) (by decide +kernel), List.mem_of_getElem? (i := 292) (by decide +kernel)⟩
theorem lw_p5 : lw_okq (⟨"CleaningRota$House", "makeTasks", "()V"⟩, 9) := ⟨⟨by decide +kernel, by decide +kernel⟩, List.mem_of_getElem? (i := 17) (by decide +kernel), List.mem_of_getElem? (i := 295) (by decide +kernel), List.mem_of_getElem? (i := 296) (by decide +kernel)⟩
theorem lw_p6 : lw_okq (⟨"CleaningRota$House", "areaOfNextTask", "(I)I"⟩, 9) := ⟨⟨by decide +kernel, by decide +kernel⟩, List.mem_of_getElem? (i := 17) (by decide +kernel), List.mem_of_getElem? (i := 299) (by decide +kernel), List.mem_of_getElem? (i := 300) (by decide +kernel)⟩
theorem lw_p7 : lw_okq (⟨"CleaningRota$House", "effortOfTask", "(I)I"⟩, 9) := ⟨⟨by decide +kernel, by decide +kernel⟩, List.mem_of_getElem? (i := 17) (by decide +kernel), List.mem_of_getElem? (i := 303) (by decide +kernel), List.mem_of_getElem? (i := 304) (by decide +kernel)⟩
theorem lw_p8 : lw_okq (⟨"CleaningRota$House", "addTask", "(IIZ)V"⟩, 9) := ⟨⟨by decide +kernel, by decide +kernel⟩, List.mem_of_getElem? (i := 17) (by decide +kernel), List.mem_of_getElem? (i := 315) (by decide +kernel), List.mem_of_getElem? (i := 316) (by decide +kernel)⟩
theorem lw_p9 : lw_okq (⟨"CleaningRota$House", "giveTasks", "()V"⟩, 9) := ⟨⟨by decide +kernel, by decide +kernel⟩, List.mem_of_getElem? (i := 17) (by decide +kernel), List.mem_of_getElem? (i := 319) (by decide +kernel), List.mem_of_getElem? (i := 320) (by decide +kernel)⟩
theorem lw_p10 : lw_okq (⟨"CleaningRota$House", "hasTwinAhead", "(I)Z"⟩, 9) := ⟨⟨by decide +kernel, by decide +kernel⟩, List.mem_of_getElem? (i := 17) (by decide +kernel), List.mem_of_getElem? (i := 323) (by decide +kernel), List.mem_of_getElem? (i := 324) (by decide +kernel)⟩
theorem lw_p11 : lw_okq (⟨"CleaningRota$House", "isTwinOpen", "(I)Z"⟩, 9) := ⟨⟨by decide +kernel, by decide +kernel⟩, List.mem_of_getElem? (i := 17) (by decide +kernel), List.mem_of_getElem? (i := 370) (by decide +kernel), List.mem_of_getElem? (i := 371) (by decide +kernel)⟩
theorem lw_p12 : lw_okq (⟨"CleaningRota$House", "clean", "(I)V"⟩, 9) := ⟨⟨by decide +kernel, by decide +kernel⟩, List.mem_of_getElem? (i := 17) (by decide +kernel), List.mem_of_getElem? (i := 374) (by decide +kernel), List.mem_of_getElem? (i := 375) (by decide +kernel)⟩
theorem lw_p13 : lw_okq (⟨"CleaningRota$House", "dropSwapsWith", "(I)V"⟩, 9) := ⟨⟨by decide +kernel, by decide +kernel⟩, List.mem_of_getElem? (i := 17) (by decide +kernel), List.mem_of_getElem? (i := 378) (by decide +kernel), List.mem_of_getElem? (i := 379) (by decide +kernel)⟩
theorem lw_p14 : lw_okq (⟨"CleaningRota$House", "skip", "(I)V"⟩, 9) := ⟨⟨by decide +kernel, by decide +kernel⟩, List.mem_of_getElem? (i := 17) (by decide +kernel), List.mem_of_getElem? (i := 403) (by decide +kernel), List.mem_of_getElem? (i := 404) (by decide +kernel)⟩
theorem lw_p15 : lw_okq (⟨"CleaningRota$House", "decayPoints", "()V"⟩, 9) := ⟨⟨by decide +kernel, by decide +kernel⟩, List.mem_of_getElem? (i := 17) (by decide +kernel), List.mem_of_getElem? (i := 411) (by decide +kernel), List.mem_of_getElem? (i := 412) (by decide +kernel)⟩
def lw_privs_1 : List (MethodName × Nat) := [(⟨"CleaningRota$History", "dropOldest", "()V"⟩, 2), (⟨"CleaningRota$History", "stateAt", "(I)LCleaningRota$House;"⟩, 2), (⟨"CleaningRota$House", "spreadOf", "(ZIII)I"⟩, 9), (⟨"CleaningRota$House", "leastLoaded", "(I)I"⟩, 9), (⟨"CleaningRota$House", "goesAhead", "(II)Z"⟩, 9), (⟨"CleaningRota$House", "makeTasks", "()V"⟩, 9), (⟨"CleaningRota$House", "areaOfNextTask", "(I)I"⟩, 9), (⟨"CleaningRota$House", "effortOfTask", "(I)I"⟩, 9), (⟨"CleaningRota$House", "addTask", "(IIZ)V"⟩, 9), (⟨"CleaningRota$House", "giveTasks", "()V"⟩, 9), (⟨"CleaningRota$House", "hasTwinAhead", "(I)Z"⟩, 9), (⟨"CleaningRota$House", "isTwinOpen", "(I)Z"⟩, 9), (⟨"CleaningRota$House", "clean", "(I)V"⟩, 9), (⟨"CleaningRota$House", "dropSwapsWith", "(I)V"⟩, 9), (⟨"CleaningRota$House", "skip", "(I)V"⟩, 9), (⟨"CleaningRota$House", "decayPoints", "()V"⟩, 9)]
theorem lw_r1 : ∀ q ∈ lw_privs_1, lw_okq q := List.forall_mem_cons.mpr ⟨lw_p0, List.forall_mem_cons.mpr ⟨lw_p1, List.forall_mem_cons.mpr ⟨lw_p2, List.forall_mem_cons.mpr ⟨lw_p3, List.forall_mem_cons.mpr ⟨lw_p4, List.forall_mem_cons.mpr ⟨lw_p5, List.forall_mem_cons.mpr ⟨lw_p6, List.forall_mem_cons.mpr ⟨lw_p7, List.forall_mem_cons.mpr ⟨lw_p8, List.forall_mem_cons.mpr ⟨lw_p9, List.forall_mem_cons.mpr ⟨lw_p10, List.forall_mem_cons.mpr ⟨lw_p11, List.forall_mem_cons.mpr ⟨lw_p12, List.forall_mem_cons.mpr ⟨lw_p13, List.forall_mem_cons.mpr ⟨lw_p14, List.forall_mem_cons.mpr ⟨lw_p15, fun _ h => absurd h List.not_mem_nil⟩⟩⟩⟩⟩⟩⟩⟩⟩⟩⟩⟩⟩⟩⟩⟩
theorem lw_p16 : lw_okq (⟨"CleaningRota$House", "growDirt", "()V"⟩, 9) := ⟨⟨by decide +kernel, by decide +kernel⟩, List.mem_of_getElem? (i := 17) (by decide +kernel), List.mem_of_getElem? (i := 415) (by decide +kernel), List.mem_of_getElem? (i := 416) (by decide +kernel)⟩
theorem lw_p17 : lw_okq (⟨"CleaningRota$House", "gainOfExchange", "(II)I"⟩, 9) := ⟨⟨by decide +kernel, by decide +kernel⟩, List.mem_of_getElem? (i := 17) (by decide +kernel), List.mem_of_getElem? (i := 460) (by decide +kernel), List.mem_of_getElem? (i := 461) (by decide +kernel)⟩
theorem lw_p18 : lw_okq (⟨"CleaningRota$Pad", "endOfNumber", "(I)I"⟩, 3) := ⟨⟨by decide +kernel, by decide +kernel⟩, List.mem_of_getElem? (i := 113) (by decide +kernel), List.mem_of_getElem? (i := 534) (by decide +kernel), List.mem_of_getElem? (i := 535) (by decide +kernel)⟩
theorem lw_p19 : lw_okq (⟨"CleaningRota$Pad", "isDigitAt", "(I)Z"⟩, 3) := ⟨⟨by decide +kernel, by decide +kernel⟩, List.mem_of_getElem? (i := 113) (by decide +kernel), List.mem_of_getElem? (i := 538) (by decide +kernel), List.mem_of_getElem? (i := 539) (by decide +kernel)⟩
theorem lw_p20 : lw_okq (⟨"CleaningRota$Pad", "characterAt", "(I)I"⟩, 3) := ⟨⟨by decide +kernel, by decide +kernel⟩, List.mem_of_getElem? (i := 113) (by decide +kernel), List.mem_of_getElem? (i := 542) (by decide +kernel), List.mem_of_getElem? (i := 543) (by decide +kernel)⟩
theorem lw_p21 : lw_okq (⟨"CleaningRota$Pad", "numberIn", "(II)I"⟩, 3) := ⟨⟨by decide +kernel, by decide +kernel⟩, List.mem_of_getElem? (i := 113) (by decide +kernel), List.mem_of_getElem? (i := 546) (by decide +kernel), List.mem_of_getElem? (i := 547) (by decide +kernel)⟩
theorem lw_p22 : lw_okq (⟨"CleaningRota$Pad", "addPart", "(II)V"⟩, 3) := ⟨⟨by decide +kernel, by decide +kernel⟩, List.mem_of_getElem? (i := 113) (by decide +kernel), List.mem_of_getElem? (i := 550) (by decide +kernel), List.mem_of_getElem? (i := 551) (by decide +kernel)⟩
def lw_privs_2 : List (MethodName × Nat) := [(⟨"CleaningRota$House", "growDirt", "()V"⟩, 9), (⟨"CleaningRota$House", "gainOfExchange", "(II)I"⟩, 9), (⟨"CleaningRota$Pad", "endOfNumber", "(I)I"⟩, 3), (⟨"CleaningRota$Pad", "isDigitAt", "(I)Z"⟩, 3), (⟨"CleaningRota$Pad", "characterAt", "(I)I"⟩, 3), (⟨"CleaningRota$Pad", "numberIn", "(II)I"⟩, 3), (⟨"CleaningRota$Pad", "addPart", "(II)V"⟩, 3)]
theorem lw_r2 : ∀ q ∈ lw_privs_2, lw_okq q := List.forall_mem_cons.mpr ⟨lw_p16, List.forall_mem_cons.mpr ⟨lw_p17, List.forall_mem_cons.mpr ⟨lw_p18, List.forall_mem_cons.mpr ⟨lw_p19, List.forall_mem_cons.mpr ⟨lw_p20, List.forall_mem_cons.mpr ⟨lw_p21, List.forall_mem_cons.mpr ⟨lw_p22, fun _ h => absurd h List.not_mem_nil⟩⟩⟩⟩⟩⟩⟩
def lw_privs : List (MethodName × Nat) := lw_privs_1 ++ (lw_privs_2)
def lw_tbl : List Cond := k2_sels lw_privs ++ tables_1
theorem lw_privs_ok : ∀ q ∈ lw_privs, lw_okq q := by
  show ∀ q ∈ lw_privs_1 ++ (lw_privs_2), lw_okq q
  exact List.forall_mem_append.mpr ⟨lw_r1, lw_r2⟩
-- ===== end of PART A; then your names; then what follows =====
/-! ===== BEGIN words of one list among another's, by their places ===== -/
theorem goodIn_r {big : List Cond} (ws : List Cond) (ps : List Nat) (hp : ws = ps.filterMap (fun i => big[i]?)) (h : ws.all goodWord = true) : GoodIn big ws := by
  intro w hw
  have h1 := List.all_eq_true.mp h w hw
  rw [hp] at hw
  obtain ⟨i, -, hi⟩ := List.mem_filterMap.mp hw
  have hm : w ∈ big := by first | exact List.mem_of_getElem? hi | exact List.getElem?_mem hi
  exact ⟨hm, good_of_word h1⟩
theorem goodIn_app {big a b : List Cond} (ha : GoodIn big a) (hb : GoodIn big b) : GoodIn big (a ++ b) := fun w h => (List.mem_append.mp h).elim (ha w) (hb w)
theorem goodIn_ca {big a b : List Cond} {c : Cond} (ha : GoodIn big (c :: a)) (hb : GoodIn big b) : GoodIn big (c :: (a ++ b)) := fun w h => (List.mem_cons.mp h).elim (fun e => ha w (List.mem_cons.mpr (Or.inl e))) (fun h => (List.mem_append.mp h).elim (fun h => ha w (List.mem_cons.mpr (Or.inr h))) (hb w))
theorem goodIn_sub {big ws : List Cond} (hm : ∀ w ∈ ws, w ∈ big) (h : ws.all goodWord = true) : GoodIn big ws := fun w hw => ⟨hm w hw, good_of_word (List.all_eq_true.mp h w hw)⟩
/-! ===== END ===== -/

/-! ===== BEGIN printed: names, fields, word lists, decode rows ===== -/
def RX0 : String := "CleaningRota$History"
def TX0 : u_T := fun k => match k with
  | 0 => ("CleaningRota$History", "states", "[LCleaningRota$House;", true)
  | _ => ("CleaningRota$History", "kept", "I", false)
def tyX0 : Nat → FieldType := fun k => match k with
  | 0 => .array (.object "CleaningRota$House")
  | _ => .int
abbrev wsX00 : List Cond := u_ws RX0 TX0 2
theorem nmX0 : ∀ a, a < 2 → ∀ b, b < 2 → a ≠ b → (TX0 a).2.1 ≠ (TX0 b).2.1 := by decide +kernel
theorem tyX0_ok : ∀ k, k < 2 → parseFieldDescriptor (TX0 k).2.2.1 = some (tyX0 k) := by decide +kernel
abbrev cX0_init : ByteArray := prog_2_method_1_code
def yX0_init : MethodName := ⟨RX0, "<init>", "()V"⟩
abbrev cX0_keep : ByteArray := prog_2_method_2_code
def yX0_keep : MethodName := ⟨RX0, "keep", "(LCleaningRota$House;)V"⟩
abbrev cX0_restore : ByteArray := prog_2_method_3_code
def yX0_restore : MethodName := ⟨RX0, "restore", "(LCleaningRota$House;)V"⟩
abbrev cX0_stateAt : ByteArray := prog_2_method_4_code
def yX0_stateAt : MethodName := ⟨RX0, "stateAt", "(I)LCleaningRota$House;"⟩
abbrev cX0_dropOldest : ByteArray := prog_2_method_5_code
def yX0_dropOldest : MethodName := ⟨RX0, "dropOldest", "()V"⟩
def RX1 : String := "CleaningRota$House"
def TX1 : u_T := fun k => match k with
  | 0 => ("CleaningRota$House", "residents", "LCleaningRota$Table;", true)
  | 1 => ("CleaningRota$House", "areas", "LCleaningRota$Table;", true)
  | 2 => ("CleaningRota$House", "tasks", "LCleaningRota$Table;", true)
  | 3 => ("CleaningRota$House", "swaps", "LCleaningRota$Table;", true)
  | 4 => ("CleaningRota$House", "settings", "LCleaningRota$Table;", true)
  | 5 => ("CleaningRota$House", "week", "I", false)
  | 6 => ("CleaningRota$House", "isPlanned", "Z", false)
  | 7 => ("CleaningRota$House", "tasksDone", "I", false)
  | _ => ("CleaningRota$House", "tasksSkipped", "I", false)
def tyX1 : Nat → FieldType := fun k => match k with
  | 0 => .object "CleaningRota$Table"
  | 1 => .object "CleaningRota$Table"
  | 2 => .object "CleaningRota$Table"
  | 3 => .object "CleaningRota$Table"
  | 4 => .object "CleaningRota$Table"
  | 5 => .int
  | 6 => .boolean
  | 7 => .int
  | _ => .int
abbrev wsX10 : List Cond := u_ws RX1 TX1 9
theorem nmX1 : ∀ a, a < 9 → ∀ b, b < 9 → a ≠ b → (TX1 a).2.1 ≠ (TX1 b).2.1 := by decide +kernel
theorem tyX1_ok : ∀ k, k < 9 → parseFieldDescriptor (TX1 k).2.2.1 = some (tyX1 k) := by decide +kernel
abbrev cX1_init : ByteArray := prog_3_method_1_code
def yX1_init : MethodName := ⟨RX1, "<init>", "()V"⟩
abbrev cX1_copyFrom : ByteArray := prog_3_method_2_code
def yX1_copyFrom : MethodName := ⟨RX1, "copyFrom", "(LCleaningRota$House;)V"⟩
abbrev cX1_addResident : ByteArray := prog_3_method_3_code
def yX1_addResident : MethodName := ⟨RX1, "addResident", "(I)I"⟩
abbrev cX1_isAway : ByteArray := prog_3_method_4_code
def yX1_isAway : MethodName := ⟨RX1, "isAway", "(I)Z"⟩
abbrev cX1_loadOf : ByteArray := prog_3_method_5_code
def yX1_loadOf : MethodName := ⟨RX1, "loadOf", "(I)I"⟩
abbrev cX1_addArea : ByteArray := prog_3_method_6_code
def yX1_addArea : MethodName := ⟨RX1, "addArea", "(III)I"⟩
abbrev cX1_needsDeepClean : ByteArray := prog_3_method_7_code
def yX1_needsDeepClean : MethodName := ⟨RX1, "needsDeepClean", "(I)Z"⟩
abbrev cX1_isDue : ByteArray := prog_3_method_8_code
def yX1_isDue : MethodName := ⟨RX1, "isDue", "(I)Z"⟩
abbrev cX1_greatestDirt : ByteArray := prog_3_method_9_code
def yX1_greatestDirt : MethodName := ⟨RX1, "greatestDirt", "()I"⟩
abbrev cX1_clean : ByteArray := prog_3_method_10_code
def yX1_clean : MethodName := ⟨RX1, "clean", "(I)V"⟩
abbrev cX1_planWeek : ByteArray := prog_3_method_11_code
def yX1_planWeek : MethodName := ⟨RX1, "planWeek", "()I"⟩
abbrev cX1_makeTasks : ByteArray := prog_3_method_12_code
def yX1_makeTasks : MethodName := ⟨RX1, "makeTasks", "()V"⟩
abbrev cX1_areaOfNextTask : ByteArray := prog_3_method_13_code
def yX1_areaOfNextTask : MethodName := ⟨RX1, "areaOfNextTask", "(I)I"⟩
abbrev cX1_effortOfTask : ByteArray := prog_3_method_14_code
def yX1_effortOfTask : MethodName := ⟨RX1, "effortOfTask", "(I)I"⟩
abbrev cX1_addTask : ByteArray := prog_3_method_15_code
def yX1_addTask : MethodName := ⟨RX1, "addTask", "(IIZ)V"⟩
abbrev cX1_giveTasks : ByteArray := prog_3_method_16_code
def yX1_giveTasks : MethodName := ⟨RX1, "giveTasks", "()V"⟩
abbrev cX1_hasTwinAhead : ByteArray := prog_3_method_17_code
def yX1_hasTwinAhead : MethodName := ⟨RX1, "hasTwinAhead", "(I)Z"⟩
abbrev cX1_leastLoaded : ByteArray := prog_3_method_18_code
def yX1_leastLoaded : MethodName := ⟨RX1, "leastLoaded", "(I)I"⟩
abbrev cX1_goesAhead : ByteArray := prog_3_method_19_code
def yX1_goesAhead : MethodName := ⟨RX1, "goesAhead", "(II)Z"⟩
abbrev cX1_isOpen : ByteArray := prog_3_method_20_code
def yX1_isOpen : MethodName := ⟨RX1, "isOpen", "(I)Z"⟩
abbrev cX1_isOpenTaskOf : ByteArray := prog_3_method_21_code
def yX1_isOpenTaskOf : MethodName := ⟨RX1, "isOpenTaskOf", "(II)Z"⟩
abbrev cX1_countOpenTasks : ByteArray := prog_3_method_22_code
def yX1_countOpenTasks : MethodName := ⟨RX1, "countOpenTasks", "()I"⟩
abbrev cX1_countOpenDeepTasks : ByteArray := prog_3_method_23_code
def yX1_countOpenDeepTasks : MethodName := ⟨RX1, "countOpenDeepTasks", "()I"⟩
abbrev cX1_countOpenTasksOf : ByteArray := prog_3_method_24_code
def yX1_countOpenTasksOf : MethodName := ⟨RX1, "countOpenTasksOf", "(I)I"⟩
abbrev cX1_firstOpenTaskOf : ByteArray := prog_3_method_25_code
def yX1_firstOpenTaskOf : MethodName := ⟨RX1, "firstOpenTaskOf", "(I)I"⟩
abbrev cX1_finish : ByteArray := prog_3_method_26_code
def yX1_finish : MethodName := ⟨RX1, "finish", "(I)I"⟩
abbrev cX1_isTwinOpen : ByteArray := prog_3_method_27_code
def yX1_isTwinOpen : MethodName := ⟨RX1, "isTwinOpen", "(I)Z"⟩
abbrev cX1_finishFromTo : ByteArray := prog_3_method_28_code
def yX1_finishFromTo : MethodName := ⟨RX1, "finishFromTo", "(II)V"⟩
abbrev cX1_finishOpenTasks : ByteArray := prog_3_method_29_code
def yX1_finishOpenTasks : MethodName := ⟨RX1, "finishOpenTasks", "()V"⟩
abbrev cX1_payDebt : ByteArray := prog_3_method_30_code
def yX1_payDebt : MethodName := ⟨RX1, "payDebt", "(II)I"⟩
abbrev cX1_endWeek : ByteArray := prog_3_method_31_code
def yX1_endWeek : MethodName := ⟨RX1, "endWeek", "()I"⟩
abbrev cX1_skip : ByteArray := prog_3_method_32_code
def yX1_skip : MethodName := ⟨RX1, "skip", "(I)V"⟩
abbrev cX1_decayPoints : ByteArray := prog_3_method_33_code
def yX1_decayPoints : MethodName := ⟨RX1, "decayPoints", "()V"⟩
abbrev cX1_growDirt : ByteArray := prog_3_method_34_code
def yX1_growDirt : MethodName := ⟨RX1, "growDirt", "()V"⟩
abbrev cX1_canExchange : ByteArray := prog_3_method_35_code
def yX1_canExchange : MethodName := ⟨RX1, "canExchange", "(II)Z"⟩
abbrev cX1_isProposed : ByteArray := prog_3_method_36_code
def yX1_isProposed : MethodName := ⟨RX1, "isProposed", "(II)Z"⟩
abbrev cX1_addSwap : ByteArray := prog_3_method_37_code
def yX1_addSwap : MethodName := ⟨RX1, "addSwap", "(II)I"⟩
abbrev cX1_declineSwap : ByteArray := prog_3_method_38_code
def yX1_declineSwap : MethodName := ⟨RX1, "declineSwap", "(I)I"⟩
abbrev cX1_acceptSwap : ByteArray := prog_3_method_39_code
def yX1_acceptSwap : MethodName := ⟨RX1, "acceptSwap", "(I)I"⟩
abbrev cX1_gainOfExchange : ByteArray := prog_3_method_40_code
def yX1_gainOfExchange : MethodName := ⟨RX1, "gainOfExchange", "(II)I"⟩
abbrev cX1_dropSwapsWith : ByteArray := prog_3_method_41_code
def yX1_dropSwapsWith : MethodName := ⟨RX1, "dropSwapsWith", "(I)V"⟩
abbrev cX1_rateOf : ByteArray := prog_3_method_42_code
def yX1_rateOf : MethodName := ⟨RX1, "rateOf", "(II)I"⟩
abbrev cX1_spread : ByteArray := prog_3_method_43_code
def yX1_spread : MethodName := ⟨RX1, "spread", "()I"⟩
abbrev cX1_plannedSpread : ByteArray := prog_3_method_44_code
def yX1_plannedSpread : MethodName := ⟨RX1, "plannedSpread", "()I"⟩
abbrev cX1_spreadIfExchanged : ByteArray := prog_3_method_45_code
def yX1_spreadIfExchanged : MethodName := ⟨RX1, "spreadIfExchanged", "(II)I"⟩
abbrev cX1_spreadOf : ByteArray := prog_3_method_46_code
def yX1_spreadOf : MethodName := ⟨RX1, "spreadOf", "(ZIII)I"⟩
def RX2 : String := "CleaningRota$Pad"
def TX2 : u_T := fun k => match k with
  | 0 => ("CleaningRota$Pad", "characters", "[C", true)
  | 1 => ("CleaningRota$Pad", "length", "I", false)
  | _ => ("CleaningRota$Pad", "parts", "LCleaningRota$Table;", true)
def tyX2 : Nat → FieldType := fun k => match k with
  | 0 => .array .char
  | 1 => .int
  | _ => .object "CleaningRota$Table"
abbrev wsX20 : List Cond := u_ws RX2 TX2 3
theorem nmX2 : ∀ a, a < 3 → ∀ b, b < 3 → a ≠ b → (TX2 a).2.1 ≠ (TX2 b).2.1 := by decide +kernel
theorem tyX2_ok : ∀ k, k < 3 → parseFieldDescriptor (TX2 k).2.2.1 = some (tyX2 k) := by decide +kernel
abbrev cX2_init : ByteArray := prog_4_method_1_code
def yX2_init : MethodName := ⟨RX2, "<init>", "()V"⟩
abbrev cX2_countCharacters : ByteArray := prog_4_method_2_code
def yX2_countCharacters : MethodName := ⟨RX2, "countCharacters", "(J)I"⟩
abbrev cX2_append : ByteArray := prog_4_method_3_code
def yX2_append : MethodName := ⟨RX2, "append", "(JI)V"⟩
abbrev cX2_characterAt : ByteArray := prog_4_method_4_code
def yX2_characterAt : MethodName := ⟨RX2, "characterAt", "(I)I"⟩
abbrev cX2_isDigitAt : ByteArray := prog_4_method_5_code
def yX2_isDigitAt : MethodName := ⟨RX2, "isDigitAt", "(I)Z"⟩
abbrev cX2_read : ByteArray := prog_4_method_6_code
def yX2_read : MethodName := ⟨RX2, "read", "()I"⟩
abbrev cX2_addPart : ByteArray := prog_4_method_7_code
def yX2_addPart : MethodName := ⟨RX2, "addPart", "(II)V"⟩
abbrev cX2_endOfNumber : ByteArray := prog_4_method_8_code
def yX2_endOfNumber : MethodName := ⟨RX2, "endOfNumber", "(I)I"⟩
abbrev cX2_numberIn : ByteArray := prog_4_method_9_code
def yX2_numberIn : MethodName := ⟨RX2, "numberIn", "(II)I"⟩
def RX3 : String := "CleaningRota$Table"
def TX3 : u_T := fun k => match k with
  | 0 => ("CleaningRota$Table", "most", "I", true)
  | 1 => ("CleaningRota$Table", "width", "I", true)
  | 2 => ("CleaningRota$Table", "cells", "[I", true)
  | _ => ("CleaningRota$Table", "rows", "I", false)
def tyX3 : Nat → FieldType := fun k => match k with
  | 0 => .int
  | 1 => .int
  | 2 => .array .int
  | _ => .int
abbrev wsX30 : List Cond := u_ws RX3 TX3 4
theorem nmX3 : ∀ a, a < 4 → ∀ b, b < 4 → a ≠ b → (TX3 a).2.1 ≠ (TX3 b).2.1 := by decide +kernel
theorem tyX3_ok : ∀ k, k < 4 → parseFieldDescriptor (TX3 k).2.2.1 = some (tyX3 k) := by decide +kernel
abbrev cX3_init : ByteArray := prog_5_method_1_code
def yX3_init : MethodName := ⟨RX3, "<init>", "(II)V"⟩
abbrev cX3_size : ByteArray := prog_5_method_2_code
def yX3_size : MethodName := ⟨RX3, "size", "()I"⟩
abbrev cX3_isFull : ByteArray := prog_5_method_3_code
def yX3_isFull : MethodName := ⟨RX3, "isFull", "()Z"⟩
abbrev cX3_has : ByteArray := prog_5_method_4_code
def yX3_has : MethodName := ⟨RX3, "has", "(I)Z"⟩
abbrev cX3_cell : ByteArray := prog_5_method_5_code
def yX3_cell : MethodName := ⟨RX3, "cell", "(II)I"⟩
abbrev cX3_write : ByteArray := prog_5_method_6_code
def yX3_write : MethodName := ⟨RX3, "write", "(III)V"⟩
abbrev cX3_increase : ByteArray := prog_5_method_7_code
def yX3_increase : MethodName := ⟨RX3, "increase", "(III)V"⟩
abbrev cX3_exchange : ByteArray := prog_5_method_8_code
def yX3_exchange : MethodName := ⟨RX3, "exchange", "(III)I"⟩
abbrev cX3_append : ByteArray := prog_5_method_9_code
def yX3_append : MethodName := ⟨RX3, "append", "()I"⟩
abbrev cX3_remove : ByteArray := prog_5_method_10_code
def yX3_remove : MethodName := ⟨RX3, "remove", "(I)V"⟩
abbrev cX3_clear : ByteArray := prog_5_method_11_code
def yX3_clear : MethodName := ⟨RX3, "clear", "()V"⟩
abbrev cX3_copyFrom : ByteArray := prog_5_method_12_code
def yX3_copyFrom : MethodName := ⟨RX3, "copyFrom", "(LCleaningRota$Table;)V"⟩
def RX4 : String := "CleaningRota"
def TX4 : u_T := fun k => match k with
  | 0 => ("CleaningRota", "house", "LCleaningRota$House;", true)
  | 1 => ("CleaningRota", "trial", "LCleaningRota$House;", true)
  | 2 => ("CleaningRota", "history", "LCleaningRota$History;", true)
  | _ => ("CleaningRota", "pad", "LCleaningRota$Pad;", true)
def tyX4 : Nat → FieldType := fun k => match k with
  | 0 => .object "CleaningRota$House"
  | 1 => .object "CleaningRota$House"
  | 2 => .object "CleaningRota$History"
  | _ => .object "CleaningRota$Pad"
abbrev wsX40 : List Cond := u_ws RX4 TX4 4
theorem nmX4 : ∀ a, a < 4 → ∀ b, b < 4 → a ≠ b → (TX4 a).2.1 ≠ (TX4 b).2.1 := by decide +kernel
theorem tyX4_ok : ∀ k, k < 4 → parseFieldDescriptor (TX4 k).2.2.1 = some (tyX4 k) := by decide +kernel
abbrev cX4_init : ByteArray := prog_1_method_1_code
def yX4_init : MethodName := ⟨RX4, "<init>", "()V"⟩
abbrev cX4_resident : ByteArray := prog_1_method_2_code
def yX4_resident : MethodName := ⟨RX4, "resident", "(I)I"⟩
abbrev cX4_weigh : ByteArray := prog_1_method_3_code
def yX4_weigh : MethodName := ⟨RX4, "weigh", "(II)I"⟩
abbrev cX4_away : ByteArray := prog_1_method_4_code
def yX4_away : MethodName := ⟨RX4, "away", "(III)I"⟩
abbrev cX4_area : ByteArray := prog_1_method_5_code
def yX4_area : MethodName := ⟨RX4, "area", "(III)I"⟩
abbrev cX4_set : ByteArray := prog_1_method_6_code
def yX4_set : MethodName := ⟨RX4, "set", "(II)I"⟩
abbrev cX4_plan : ByteArray := prog_1_method_7_code
def yX4_plan : MethodName := ⟨RX4, "plan", "()I"⟩
abbrev cX4_done : ByteArray := prog_1_method_8_code
def yX4_done : MethodName := ⟨RX4, "done", "(I)I"⟩
abbrev cX4_extra : ByteArray := prog_1_method_9_code
def yX4_extra : MethodName := ⟨RX4, "extra", "(II)I"⟩
abbrev cX4_end : ByteArray := prog_1_method_10_code
def yX4_end : MethodName := ⟨RX4, "end", "()I"⟩
abbrev cX4_propose : ByteArray := prog_1_method_11_code
def yX4_propose : MethodName := ⟨RX4, "propose", "(II)I"⟩
abbrev cX4_answer : ByteArray := prog_1_method_12_code
def yX4_answer : MethodName := ⟨RX4, "answer", "(II)I"⟩
abbrev cX4_about : ByteArray := prog_1_method_13_code
def yX4_about : MethodName := ⟨RX4, "about", "(II)I"⟩
abbrev cX4_room : ByteArray := prog_1_method_14_code
def yX4_room : MethodName := ⟨RX4, "room", "(II)I"⟩
abbrev cX4_task : ByteArray := prog_1_method_15_code
def yX4_task : MethodName := ⟨RX4, "task", "(II)I"⟩
abbrev cX4_swap : ByteArray := prog_1_method_16_code
def yX4_swap : MethodName := ⟨RX4, "swap", "(II)I"⟩
abbrev cX4_count : ByteArray := prog_1_method_17_code
def yX4_count : MethodName := ⟨RX4, "count", "(I)I"⟩
abbrev cX4_forecast : ByteArray := prog_1_method_18_code
def yX4_forecast : MethodName := ⟨RX4, "forecast", "(II)I"⟩
abbrev cX4_fairer : ByteArray := prog_1_method_19_code
def yX4_fairer : MethodName := ⟨RX4, "fairer", "(I)I"⟩
abbrev cX4_put : ByteArray := prog_1_method_20_code
def yX4_put : MethodName := ⟨RX4, "put", "(J)I"⟩
abbrev cX4_wipe : ByteArray := prog_1_method_21_code
def yX4_wipe : MethodName := ⟨RX4, "wipe", "()I"⟩
abbrev cX4_fault : ByteArray := prog_1_method_22_code
def yX4_fault : MethodName := ⟨RX4, "fault", "()I"⟩
abbrev cX4_load : ByteArray := prog_1_method_23_code
def yX4_load : MethodName := ⟨RX4, "load", "()I"⟩
abbrev cX4_undo : ByteArray := prog_1_method_24_code
def yX4_undo : MethodName := ⟨RX4, "undo", "()I"⟩
abbrev cX4_isIn : ByteArray := prog_1_method_25_code
def yX4_isIn : MethodName := ⟨RX4, "isIn", "(III)Z"⟩
abbrev cX4_isWeight : ByteArray := prog_1_method_26_code
def yX4_isWeight : MethodName := ⟨RX4, "isWeight", "(I)Z"⟩
abbrev cX4_isSettingValue : ByteArray := prog_1_method_27_code
def yX4_isSettingValue : MethodName := ⟨RX4, "isSettingValue", "(II)Z"⟩
abbrev cX4_bit : ByteArray := prog_1_method_28_code
def yX4_bit : MethodName := ⟨RX4, "bit", "(Z)I"⟩
def RX5 : String := "CleaningRotaModel"
def TX5 : u_T := fun k => match k with
  | _ => ("", "", "", false)
def tyX5 : Nat → FieldType := fun k => match k with
  | _ => .int
abbrev wsX50 : List Cond := u_ws RX5 TX5 0
theorem nmX5 : ∀ a, a < 0 → ∀ b, b < 0 → a ≠ b → (TX5 a).2.1 ≠ (TX5 b).2.1 := by decide +kernel
theorem tyX5_ok : ∀ k, k < 0 → parseFieldDescriptor (TX5 k).2.2.1 = some (tyX5 k) := by decide +kernel
def RJ9 : String := "java/lang/Math"
def TJ9 : u_T := fun k => match k with
  | _ => ("", "", "", false)
def tyJ9 : Nat → FieldType := fun k => match k with
  | _ => .int
abbrev wsJ90 : List Cond := u_ws RJ9 TJ9 0
theorem nmJ9 : ∀ a, a < 0 → ∀ b, b < 0 → a ≠ b → (TJ9 a).2.1 ≠ (TJ9 b).2.1 := by decide +kernel
theorem tyJ9_ok : ∀ k, k < 0 → parseFieldDescriptor (TJ9 k).2.2.1 = some (tyJ9 k) := by decide +kernel
abbrev cJ9_max_7cf53 : ByteArray := prog_8_method_65_code
def yJ9_max_7cf53 : MethodName := ⟨RJ9, "max", "(II)I"⟩
abbrev cJ9_min_7cf53 : ByteArray := prog_8_method_69_code
def yJ9_min_7cf53 : MethodName := ⟨RJ9, "min", "(II)I"⟩
def RJ10 : String := "java/lang/System"
def TJ10 : u_T := fun k => match k with
  | _ => ("", "", "", false)
def tyJ10 : Nat → FieldType := fun k => match k with
  | _ => .int
abbrev wsJ100 : List Cond := u_ws RJ10 TJ10 0
theorem nmJ10 : ∀ a, a < 0 → ∀ b, b < 0 → a ≠ b → (TJ10 a).2.1 ≠ (TJ10 b).2.1 := by decide +kernel
theorem tyJ10_ok : ∀ k, k < 0 → parseFieldDescriptor (TJ10 k).2.2.1 = some (tyJ10 k) := by decide +kernel
def RL : String := "CleaningRotaLaw"
abbrev cL_cell : ByteArray := method_2_code
def yL_cell : MethodName := ⟨RL, "cell", "([II)I"⟩
abbrev cL_up : ByteArray := method_3_code
def yL_up : MethodName := ⟨RL, "up", "(II)I"⟩
abbrev cL_law : ByteArray := code
def yL_law : MethodName := ⟨RL, "law", "([I)Z"⟩
abbrev cL_act : ByteArray := method_5_code
def yL_act : MethodName := ⟨RL, "act", "(LCleaningRota;III)Z"⟩
abbrev cL_plans : ByteArray := method_6_code
def yL_plans : MethodName := ⟨RL, "plans", "(LCleaningRota;)Z"⟩
abbrev cL_does : ByteArray := method_7_code
def yL_does : MethodName := ⟨RL, "does", "(LCleaningRota;I)Z"⟩
abbrev cL_ends : ByteArray := method_8_code
def yL_ends : MethodName := ⟨RL, "ends", "(LCleaningRota;)Z"⟩
abbrev cL_extra : ByteArray := method_9_code
def yL_extra : MethodName := ⟨RL, "extra", "(LCleaningRota;II)Z"⟩
abbrev cL_proposes : ByteArray := method_10_code
def yL_proposes : MethodName := ⟨RL, "proposes", "(LCleaningRota;II)Z"⟩
abbrev cL_answers : ByteArray := method_11_code
def yL_answers : MethodName := ⟨RL, "answers", "(LCleaningRota;II)Z"⟩
abbrev cL_spreads : ByteArray := method_12_code
def yL_spreads : MethodName := ⟨RL, "spreads", "(LCleaningRota;)Z"⟩
abbrev cL_open : ByteArray := method_13_code
def yL_open : MethodName := ⟨RL, "open", "(LCleaningRota;)Z"⟩
abbrev cL_comes : ByteArray := method_14_code
def yL_comes : MethodName := ⟨RL, "comes", "(LCleaningRota;I)Z"⟩
abbrev cL_fair : ByteArray := method_15_code
def yL_fair : MethodName := ⟨RL, "fair", "(LCleaningRota;)Z"⟩
abbrev cL_told : ByteArray := method_16_code
def yL_told : MethodName := ⟨RL, "told", "(LCleaningRota;I)Z"⟩
abbrev cL_back : ByteArray := method_17_code
def yL_back : MethodName := ⟨RL, "back", "(LCleaningRota;I)Z"⟩
abbrev cL_refused : ByteArray := method_18_code
def yL_refused : MethodName := ⟨RL, "refused", "(LCleaningRota;I)Z"⟩
abbrev vwCl : List vw_C := [(RX0, TX0, 2), (RX1, TX1, 9), (RX2, TX2, 3), (RX3, TX3, 4), (RX4, TX4, 4)]
-- ===== words, by their places =====
def TG : List Cond := lw_tbl.filter goodWord
theorem TG_in : ∀ w ∈ TG, w ∈ lw_tbl := fun _ h => (List.mem_filter.mp h).1
theorem TG_good : ∀ w ∈ TG, goodWord w = true := fun _ h => (List.mem_filter.mp h).2
theorem tg (i : Nat) {w : Cond} (h : lw_tbl[i]? = some w) (hg : goodWord w = true) : w ∈ TG := List.mem_filter.mpr ⟨List.mem_of_getElem? h, hg⟩
def VLink (own : String) (idx : Nat) (y : MethodName) : Prop := Cond.methodLink own idx y ∈ TG ∧ Cond.instanceMethod y ∈ TG ∧ Cond.selects y.cls y y ∈ TG ∧ Cond.initialized y.cls ∈ TG
def SLink (own : String) (idx : Nat) (y : MethodName) : Prop := Cond.methodLink own idx y ∈ TG ∧ Cond.static y ∈ TG ∧ Cond.initialized y.cls ∈ TG
def ILink (own : String) (idx : Nat) (y : MethodName) : Prop := Cond.methodLink own idx y ∈ TG ∧ Cond.instanceMethod y ∈ TG ∧ Cond.initialized y.cls ∈ TG
def NLink (y : MethodName) : Prop := Cond.static y ∈ TG ∧ Cond.initialized y.cls ∈ TG
