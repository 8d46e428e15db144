-- ===== PART A: goes FIRST, ahead of the names: the tables' words, and 'selects' of the private methods out of them =====
/-- a private method of a class that the tables say can be made, by its rows of tables_1 -/
def lw_okq (q : MethodName × Nat) : Prop := (q.1.cls ≠ "java/lang/invoke/MethodHandle" ∧ q.1.cls ≠ "java/lang/invoke/VarHandle") ∧ Cond.instantiable q.1.cls q.2 ∈ tables_1 ∧ Cond.privateMethod q.1 ∈ tables_1 ∧ Cond.instanceMethod q.1 ∈ tables_1
theorem lw_p0 : lw_okq (⟨"PaperStations$History", "dropOldest", "()V"⟩, 2) := ⟨⟨by decide +kernel, by decide +kernel⟩, List.mem_of_getElem? (i := 145) (by decide +kernel), List.mem_of_getElem? (i := 211) (by decide +kernel), List.mem_of_getElem? (i := 212) (by decide +kernel)⟩
theorem lw_p1 : lw_okq (⟨"PaperStations", "isHourToCome", "(I)Z"⟩, 7) := ⟨⟨by decide +kernel, by decide +kernel⟩, List.mem_of_getElem? (i := 10) (by decide +kernel), List.mem_of_getElem? (i := 249) (by decide +kernel), List.mem_of_getElem? (i := 250) (by decide +kernel)⟩
theorem lw_p2 : lw_okq (⟨"PaperStations$Day", "comesBefore", "(II)Z"⟩, 5) := ⟨⟨by decide +kernel, by decide +kernel⟩, List.mem_of_getElem? (i := 18) (by decide +kernel), List.mem_of_getElem? (i := 310) (by decide +kernel), List.mem_of_getElem? (i := 311) (by decide +kernel)⟩
theorem lw_p3 : lw_okq (⟨"PaperStations", "total", "()LPaperStations$Station;"⟩, 7) := ⟨⟨by decide +kernel, by decide +kernel⟩, List.mem_of_getElem? (i := 10) (by decide +kernel), List.mem_of_getElem? (i := 335) (by decide +kernel), List.mem_of_getElem? (i := 336) (by decide +kernel)⟩
theorem lw_p4 : lw_okq (⟨"PaperStations$Day", "letArrive", "()V"⟩, 5) := ⟨⟨by decide +kernel, by decide +kernel⟩, List.mem_of_getElem? (i := 18) (by decide +kernel), List.mem_of_getElem? (i := 444) (by decide +kernel), List.mem_of_getElem? (i := 445) (by decide +kernel)⟩
theorem lw_p5 : lw_okq (⟨"PaperStations$Day", "changeClerks", "()V"⟩, 5) := ⟨⟨by decide +kernel, by decide +kernel⟩, List.mem_of_getElem? (i := 18) (by decide +kernel), List.mem_of_getElem? (i := 448) (by decide +kernel), List.mem_of_getElem? (i := 449) (by decide +kernel)⟩
theorem lw_p6 : lw_okq (⟨"PaperStations$Day", "firstFree", "()I"⟩, 5) := ⟨⟨by decide +kernel, by decide +kernel⟩, List.mem_of_getElem? (i := 18) (by decide +kernel), List.mem_of_getElem? (i := 457) (by decide +kernel), List.mem_of_getElem? (i := 458) (by decide +kernel)⟩
theorem lw_p7 : lw_okq (⟨"PaperStations$Day", "serveQueues", "()I"⟩, 5) := ⟨⟨by decide +kernel, by decide +kernel⟩, List.mem_of_getElem? (i := 18) (by decide +kernel), List.mem_of_getElem? (i := 462) (by decide +kernel), List.mem_of_getElem? (i := 463) (by decide +kernel)⟩
theorem lw_p8 : lw_okq (⟨"PaperStations$Day", "endHourOfClerks", "()V"⟩, 5) := ⟨⟨by decide +kernel, by decide +kernel⟩, List.mem_of_getElem? (i := 18) (by decide +kernel), List.mem_of_getElem? (i := 474) (by decide +kernel), List.mem_of_getElem? (i := 475) (by decide +kernel)⟩
def lw_privs_1 : List (MethodName × Nat) := [(⟨"PaperStations$History", "dropOldest", "()V"⟩, 2), (⟨"PaperStations", "isHourToCome", "(I)Z"⟩, 7), (⟨"PaperStations$Day", "comesBefore", "(II)Z"⟩, 5), (⟨"PaperStations", "total", "()LPaperStations$Station;"⟩, 7), (⟨"PaperStations$Day", "letArrive", "()V"⟩, 5), (⟨"PaperStations$Day", "changeClerks", "()V"⟩, 5), (⟨"PaperStations$Day", "firstFree", "()I"⟩, 5), (⟨"PaperStations$Day", "serveQueues", "()I"⟩, 5), (⟨"PaperStations$Day", "endHourOfClerks", "()V"⟩, 5)]
theorem lw_r1 : ∀ q ∈ lw_privs_1, lw_okq q := List.forall_mem_cons.mpr ⟨lw_p0, List.forall_mem_cons.mpr ⟨lw_p1, List.forall_mem_cons.mpr ⟨lw_p2, List.forall_mem_cons.mpr ⟨lw_p3, List.forall_mem_cons.mpr ⟨lw_p4, List.forall_mem_cons.mpr ⟨lw_p5, List.forall_mem_cons.mpr ⟨lw_p6, List.forall_mem_cons.mpr ⟨lw_p7, List.forall_mem_cons.mpr ⟨lw_p8, fun _ h => absurd h List.not_mem_nil⟩⟩⟩⟩⟩⟩⟩⟩⟩
def lw_privs : List (MethodName × Nat) := lw_privs_1
def lw_tbl : List Cond := k2_sels lw_privs ++ tables_1
theorem lw_privs_ok : ∀ q ∈ lw_privs, lw_okq q := lw_r1
/-! ===== BEGIN words of one list among another's, by their places ===== -/
theorem goodIn_r {big : List Cond} (ws : List Cond) (ps : List Nat) (hp : ws = ps.filterMap (fun i => big[i]?)) (h : ws.all goodWord = true) : GoodIn big ws := by
  intro w hw
  have h1 := List.all_eq_true.mp h w hw
  rw [hp] at hw
  obtain ⟨i, -, hi⟩ := List.mem_filterMap.mp hw
  have hm : w ∈ big := by first | exact List.mem_of_getElem? hi | exact List.getElem?_mem hi
  exact ⟨hm, good_of_word h1⟩
theorem goodIn_app {big a b : List Cond} (ha : GoodIn big a) (hb : GoodIn big b) : GoodIn big (a ++ b) := fun w h => (List.mem_append.mp h).elim (ha w) (hb w)
theorem goodIn_ca {big a b : List Cond} {c : Cond} (ha : GoodIn big (c :: a)) (hb : GoodIn big b) : GoodIn big (c :: (a ++ b)) := fun w h => (List.mem_cons.mp h).elim (fun e => ha w (List.mem_cons.mpr (Or.inl e))) (fun h => (List.mem_append.mp h).elim (fun h => ha w (List.mem_cons.mpr (Or.inr h))) (hb w))
theorem goodIn_sub {big ws : List Cond} (hm : ∀ w ∈ ws, w ∈ big) (h : ws.all goodWord = true) : GoodIn big ws := fun w hw => ⟨hm w hw, good_of_word (List.all_eq_true.mp h w hw)⟩
/-! ===== END ===== -/

/-! ===== BEGIN printed: names, fields, word lists, decode rows ===== -/
def RX0 : String := "PaperStations$ArrivalText"
def TX0 : u_T := fun k => match k with
  | 0 => ("PaperStations$ArrivalText", "signs", "[C", true)
  | 1 => ("PaperStations$ArrivalText", "numbers", "[I", true)
  | _ => ("PaperStations$ArrivalText", "length", "I", false)
def tyX0 : Nat → FieldType := fun k => match k with
  | 0 => .array .char
  | 1 => .array .int
  | _ => .int
abbrev wsX00 : List Cond := u_ws RX0 TX0 3
theorem nmX0 : ∀ a, a < 3 → ∀ b, b < 3 → a ≠ b → (TX0 a).2.1 ≠ (TX0 b).2.1 := by decide +kernel
theorem tyX0_ok : ∀ k, k < 3 → parseFieldDescriptor (TX0 k).2.2.1 = some (tyX0 k) := by decide +kernel
abbrev cX0_init : ByteArray := prog_2_method_1_code
def yX0_init : MethodName := ⟨RX0, "<init>", "()V"⟩
abbrev cX0_fault : ByteArray := prog_2_method_2_code
def yX0_fault : MethodName := ⟨RX0, "fault", "()I"⟩
abbrev cX0_readNumbers : ByteArray := prog_2_method_3_code
def yX0_readNumbers : MethodName := ⟨RX0, "readNumbers", "()I"⟩
abbrev cX0_greatestNumber : ByteArray := prog_2_method_4_code
def yX0_greatestNumber : MethodName := ⟨RX0, "greatestNumber", "(I)I"⟩
abbrev cX0_isDigit : ByteArray := prog_2_method_5_code
def yX0_isDigit : MethodName := ⟨RX0, "isDigit", "(C)Z"⟩
def RX1 : String := "PaperStations$Clerk"
def TX1 : u_T := fun k => match k with
  | 0 => ("PaperStations$Clerk", "serves", "I", false)
  | 1 => ("PaperStations$Clerk", "longestRun", "I", false)
  | 2 => ("PaperStations$Clerk", "dutyStation", "I", false)
  | 3 => ("PaperStations$Clerk", "run", "I", false)
  | 4 => ("PaperStations$Clerk", "hoursWorked", "I", false)
  | _ => ("PaperStations$Clerk", "restEnds", "I", false)
def tyX1 : Nat → FieldType := fun k => match k with
  | 0 => .int
  | 1 => .int
  | 2 => .int
  | 3 => .int
  | 4 => .int
  | _ => .int
abbrev wsX10 : List Cond := u_ws RX1 TX1 6
theorem nmX1 : ∀ a, a < 6 → ∀ b, b < 6 → a ≠ b → (TX1 a).2.1 ≠ (TX1 b).2.1 := by decide +kernel
theorem tyX1_ok : ∀ k, k < 6 → parseFieldDescriptor (TX1 k).2.2.1 = some (tyX1 k) := by decide +kernel
abbrev cX1_init : ByteArray := prog_3_method_1_code
def yX1_init : MethodName := ⟨RX1, "<init>", "()V"⟩
abbrev cX1_copyFrom : ByteArray := prog_3_method_2_code
def yX1_copyFrom : MethodName := ⟨RX1, "copyFrom", "(LPaperStations$Clerk;)V"⟩
abbrev cX1_isOnDuty : ByteArray := prog_3_method_3_code
def yX1_isOnDuty : MethodName := ⟨RX1, "isOnDuty", "()Z"⟩
abbrev cX1_rests : ByteArray := prog_3_method_4_code
def yX1_rests : MethodName := ⟨RX1, "rests", "()Z"⟩
abbrev cX1_isFree : ByteArray := prog_3_method_5_code
def yX1_isFree : MethodName := ⟨RX1, "isFree", "()Z"⟩
abbrev cX1_mustLeave : ByteArray := prog_3_method_6_code
def yX1_mustLeave : MethodName := ⟨RX1, "mustLeave", "()Z"⟩
abbrev cX1_comeTo : ByteArray := prog_3_method_7_code
def yX1_comeTo : MethodName := ⟨RX1, "comeTo", "(I)V"⟩
abbrev cX1_leaveDuty : ByteArray := prog_3_method_8_code
def yX1_leaveDuty : MethodName := ⟨RX1, "leaveDuty", "(I)V"⟩
abbrev cX1_endHour : ByteArray := prog_3_method_9_code
def yX1_endHour : MethodName := ⟨RX1, "endHour", "()V"⟩
def RX2 : String := "PaperStations$Day"
def TX2 : u_T := fun k => match k with
  | 0 => ("PaperStations$Day", "hour", "I", false)
  | 1 => ("PaperStations$Day", "stationCount", "I", false)
  | 2 => ("PaperStations$Day", "clerkCount", "I", false)
  | 3 => ("PaperStations$Day", "stations", "[LPaperStations$Station;", true)
  | _ => ("PaperStations$Day", "clerks", "[LPaperStations$Clerk;", true)
def tyX2 : Nat → FieldType := fun k => match k with
  | 0 => .int
  | 1 => .int
  | 2 => .int
  | 3 => .array (.object "PaperStations$Station")
  | _ => .array (.object "PaperStations$Clerk")
abbrev wsX20 : List Cond := u_ws RX2 TX2 5
theorem nmX2 : ∀ a, a < 5 → ∀ b, b < 5 → a ≠ b → (TX2 a).2.1 ≠ (TX2 b).2.1 := by decide +kernel
theorem tyX2_ok : ∀ k, k < 5 → parseFieldDescriptor (TX2 k).2.2.1 = some (tyX2 k) := by decide +kernel
abbrev cX2_init : ByteArray := prog_4_method_1_code
def yX2_init : MethodName := ⟨RX2, "<init>", "()V"⟩
abbrev cX2_copyFrom : ByteArray := prog_4_method_2_code
def yX2_copyFrom : MethodName := ⟨RX2, "copyFrom", "(LPaperStations$Day;)V"⟩
abbrev cX2_hasStation : ByteArray := prog_4_method_3_code
def yX2_hasStation : MethodName := ⟨RX2, "hasStation", "(I)Z"⟩
abbrev cX2_hasClerk : ByteArray := prog_4_method_4_code
def yX2_hasClerk : MethodName := ⟨RX2, "hasClerk", "(I)Z"⟩
abbrev cX2_engageClerk : ByteArray := prog_4_method_5_code
def yX2_engageClerk : MethodName := ⟨RX2, "engageClerk", "(II)I"⟩
abbrev cX2_letHoursPass : ByteArray := prog_4_method_6_code
def yX2_letHoursPass : MethodName := ⟨RX2, "letHoursPass", "(I)I"⟩
abbrev cX2_letArrive : ByteArray := prog_4_method_7_code
def yX2_letArrive : MethodName := ⟨RX2, "letArrive", "()V"⟩
abbrev cX2_changeClerks : ByteArray := prog_4_method_8_code
def yX2_changeClerks : MethodName := ⟨RX2, "changeClerks", "()V"⟩
abbrev cX2_serveQueues : ByteArray := prog_4_method_9_code
def yX2_serveQueues : MethodName := ⟨RX2, "serveQueues", "()I"⟩
abbrev cX2_endHourOfClerks : ByteArray := prog_4_method_10_code
def yX2_endHourOfClerks : MethodName := ⟨RX2, "endHourOfClerks", "()V"⟩
abbrev cX2_firstFree : ByteArray := prog_4_method_11_code
def yX2_firstFree : MethodName := ⟨RX2, "firstFree", "()I"⟩
abbrev cX2_comesBefore : ByteArray := prog_4_method_12_code
def yX2_comesBefore : MethodName := ⟨RX2, "comesBefore", "(II)Z"⟩
abbrev cX2_placeAmongFree : ByteArray := prog_4_method_13_code
def yX2_placeAmongFree : MethodName := ⟨RX2, "placeAmongFree", "(I)I"⟩
abbrev cX2_placeByQueue : ByteArray := prog_4_method_14_code
def yX2_placeByQueue : MethodName := ⟨RX2, "placeByQueue", "(I)I"⟩
abbrev cX2_clerksAt : ByteArray := prog_4_method_15_code
def yX2_clerksAt : MethodName := ⟨RX2, "clerksAt", "(I)I"⟩
abbrev cX2_servedAnHourAt : ByteArray := prog_4_method_16_code
def yX2_servedAnHourAt : MethodName := ⟨RX2, "servedAnHourAt", "(I)I"⟩
abbrev cX2_hoursForQueueOf : ByteArray := prog_4_method_17_code
def yX2_hoursForQueueOf : MethodName := ⟨RX2, "hoursForQueueOf", "(I)I"⟩
abbrev cX2_clerksOnDuty : ByteArray := prog_4_method_18_code
def yX2_clerksOnDuty : MethodName := ⟨RX2, "clerksOnDuty", "()I"⟩
abbrev cX2_freeClerks : ByteArray := prog_4_method_19_code
def yX2_freeClerks : MethodName := ⟨RX2, "freeClerks", "()I"⟩
abbrev cX2_hoursWorked : ByteArray := prog_4_method_20_code
def yX2_hoursWorked : MethodName := ⟨RX2, "hoursWorked", "()I"⟩
abbrev cX2_stationsCounted : ByteArray := prog_4_method_21_code
def yX2_stationsCounted : MethodName := ⟨RX2, "stationsCounted", "(Z)I"⟩
def RX3 : String := "PaperStations$History"
def TX3 : u_T := fun k => match k with
  | 0 => ("PaperStations$History", "states", "[LPaperStations$Day;", true)
  | _ => ("PaperStations$History", "size", "I", false)
def tyX3 : Nat → FieldType := fun k => match k with
  | 0 => .array (.object "PaperStations$Day")
  | _ => .int
abbrev wsX30 : List Cond := u_ws RX3 TX3 2
theorem nmX3 : ∀ a, a < 2 → ∀ b, b < 2 → a ≠ b → (TX3 a).2.1 ≠ (TX3 b).2.1 := by decide +kernel
theorem tyX3_ok : ∀ k, k < 2 → parseFieldDescriptor (TX3 k).2.2.1 = some (tyX3 k) := by decide +kernel
abbrev cX3_init : ByteArray := prog_5_method_1_code
def yX3_init : MethodName := ⟨RX3, "<init>", "()V"⟩
abbrev cX3_remember : ByteArray := prog_5_method_2_code
def yX3_remember : MethodName := ⟨RX3, "remember", "(LPaperStations$Day;)V"⟩
abbrev cX3_dropOldest : ByteArray := prog_5_method_3_code
def yX3_dropOldest : MethodName := ⟨RX3, "dropOldest", "()V"⟩
abbrev cX3_takeBackInto : ByteArray := prog_5_method_4_code
def yX3_takeBackInto : MethodName := ⟨RX3, "takeBackInto", "(LPaperStations$Day;)V"⟩
def RX4 : String := "PaperStations$Station"
def TX4 : u_T := fun k => match k with
  | 0 => ("PaperStations$Station", "arrivals", "[I", true)
  | 1 => ("PaperStations$Station", "queue", "I", false)
  | 2 => ("PaperStations$Station", "longestQueue", "I", false)
  | 3 => ("PaperStations$Station", "served", "I", false)
  | 4 => ("PaperStations$Station", "hoursWaited", "I", false)
  | 5 => ("PaperStations$Station", "stock", "I", false)
  | 6 => ("PaperStations$Station", "issued", "I", false)
  | 7 => ("PaperStations$Station", "spoilt", "I", false)
  | 8 => ("PaperStations$Station", "carriedOff", "I", false)
  | 9 => ("PaperStations$Station", "found", "I", false)
  | 10 => ("PaperStations$Station", "box", "I", false)
  | 11 => ("PaperStations$Station", "latestCount", "I", false)
  | _ => ("PaperStations$Station", "timesCounted", "I", false)
def tyX4 : Nat → FieldType := fun k => match k with
  | 0 => .array .int
  | 1 => .int
  | 2 => .int
  | 3 => .int
  | 4 => .int
  | 5 => .int
  | 6 => .int
  | 7 => .int
  | 8 => .int
  | 9 => .int
  | 10 => .int
  | 11 => .int
  | _ => .int
abbrev wsX40 : List Cond := u_ws RX4 TX4 13
theorem nmX4 : ∀ a, a < 13 → ∀ b, b < 13 → a ≠ b → (TX4 a).2.1 ≠ (TX4 b).2.1 := by decide +kernel
theorem tyX4_ok : ∀ k, k < 13 → parseFieldDescriptor (TX4 k).2.2.1 = some (tyX4 k) := by decide +kernel
abbrev cX4_init : ByteArray := prog_6_method_1_code
def yX4_init : MethodName := ⟨RX4, "<init>", "()V"⟩
abbrev cX4_copyFrom : ByteArray := prog_6_method_2_code
def yX4_copyFrom : MethodName := ⟨RX4, "copyFrom", "(LPaperStations$Station;)V"⟩
abbrev cX4_becomeSumOf : ByteArray := prog_6_method_3_code
def yX4_becomeSumOf : MethodName := ⟨RX4, "becomeSumOf", "([LPaperStations$Station;I)V"⟩
abbrev cX4_serveQueue : ByteArray := prog_6_method_4_code
def yX4_serveQueue : MethodName := ⟨RX4, "serveQueue", "(I)I"⟩
abbrev cX4_allArrivals : ByteArray := prog_6_method_5_code
def yX4_allArrivals : MethodName := ⟨RX4, "allArrivals", "()I"⟩
abbrev cX4_isCounted : ByteArray := prog_6_method_6_code
def yX4_isCounted : MethodName := ⟨RX4, "isCounted", "()Z"⟩
abbrev cX4_countAgrees : ByteArray := prog_6_method_7_code
def yX4_countAgrees : MethodName := ⟨RX4, "countAgrees", "()Z"⟩
def RX5 : String := "PaperStations"
def TX5 : u_T := fun k => match k with
  | 0 => ("PaperStations", "day", "LPaperStations$Day;", true)
  | 1 => ("PaperStations", "forecast", "LPaperStations$Day;", true)
  | 2 => ("PaperStations", "snapshot", "LPaperStations$Day;", true)
  | 3 => ("PaperStations", "hasSnapshot", "Z", false)
  | 4 => ("PaperStations", "total", "LPaperStations$Station;", true)
  | 5 => ("PaperStations", "history", "LPaperStations$History;", true)
  | _ => ("PaperStations", "text", "LPaperStations$ArrivalText;", true)
def tyX5 : Nat → FieldType := fun k => match k with
  | 0 => .object "PaperStations$Day"
  | 1 => .object "PaperStations$Day"
  | 2 => .object "PaperStations$Day"
  | 3 => .boolean
  | 4 => .object "PaperStations$Station"
  | 5 => .object "PaperStations$History"
  | _ => .object "PaperStations$ArrivalText"
abbrev wsX50 : List Cond := u_ws RX5 TX5 7
theorem nmX5 : ∀ a, a < 7 → ∀ b, b < 7 → a ≠ b → (TX5 a).2.1 ≠ (TX5 b).2.1 := by decide +kernel
theorem tyX5_ok : ∀ k, k < 7 → parseFieldDescriptor (TX5 k).2.2.1 = some (tyX5 k) := by decide +kernel
abbrev cX5_init : ByteArray := prog_1_method_1_code
def yX5_init : MethodName := ⟨RX5, "<init>", "()V"⟩
abbrev cX5_addStation : ByteArray := prog_1_method_2_code
def yX5_addStation : MethodName := ⟨RX5, "addStation", "()I"⟩
abbrev cX5_addClerk : ByteArray := prog_1_method_3_code
def yX5_addClerk : MethodName := ⟨RX5, "addClerk", "(II)I"⟩
abbrev cX5_setArrivals : ByteArray := prog_1_method_4_code
def yX5_setArrivals : MethodName := ⟨RX5, "setArrivals", "(III)I"⟩
abbrev cX5_assign : ByteArray := prog_1_method_5_code
def yX5_assign : MethodName := ⟨RX5, "assign", "(II)I"⟩
abbrev cX5_relieve : ByteArray := prog_1_method_6_code
def yX5_relieve : MethodName := ⟨RX5, "relieve", "(I)I"⟩
abbrev cX5_pass : ByteArray := prog_1_method_7_code
def yX5_pass : MethodName := ⟨RX5, "pass", "(I)I"⟩
abbrev cX5_supply : ByteArray := prog_1_method_8_code
def yX5_supply : MethodName := ⟨RX5, "supply", "(II)I"⟩
abbrev cX5_movePapers : ByteArray := prog_1_method_9_code
def yX5_movePapers : MethodName := ⟨RX5, "movePapers", "(III)I"⟩
abbrev cX5_spoil : ByteArray := prog_1_method_10_code
def yX5_spoil : MethodName := ⟨RX5, "spoil", "(II)I"⟩
abbrev cX5_carryOff : ByteArray := prog_1_method_11_code
def yX5_carryOff : MethodName := ⟨RX5, "carryOff", "(II)I"⟩
abbrev cX5_find : ByteArray := prog_1_method_12_code
def yX5_find : MethodName := ⟨RX5, "find", "(II)I"⟩
abbrev cX5_countBox : ByteArray := prog_1_method_13_code
def yX5_countBox : MethodName := ⟨RX5, "countBox", "(II)I"⟩
abbrev cX5_readArrivals : ByteArray := prog_1_method_16_code
def yX5_readArrivals : MethodName := ⟨RX5, "readArrivals", "(II)I"⟩
abbrev cX5_undo : ByteArray := prog_1_method_17_code
def yX5_undo : MethodName := ⟨RX5, "undo", "()I"⟩
abbrev cX5_keep : ByteArray := prog_1_method_18_code
def yX5_keep : MethodName := ⟨RX5, "keep", "()I"⟩
abbrev cX5_restore : ByteArray := prog_1_method_19_code
def yX5_restore : MethodName := ⟨RX5, "restore", "()I"⟩
abbrev cX5_station : ByteArray := prog_1_method_20_code
def yX5_station : MethodName := ⟨RX5, "station", "(II)I"⟩
abbrev cX5_papers : ByteArray := prog_1_method_21_code
def yX5_papers : MethodName := ⟨RX5, "papers", "(II)I"⟩
abbrev cX5_clerk : ByteArray := prog_1_method_22_code
def yX5_clerk : MethodName := ⟨RX5, "clerk", "(II)I"⟩
abbrev cX5_arrivals : ByteArray := prog_1_method_23_code
def yX5_arrivals : MethodName := ⟨RX5, "arrivals", "(II)I"⟩
abbrev cX5_free : ByteArray := prog_1_method_24_code
def yX5_free : MethodName := ⟨RX5, "free", "(I)I"⟩
abbrev cX5_busiest : ByteArray := prog_1_method_25_code
def yX5_busiest : MethodName := ⟨RX5, "busiest", "(I)I"⟩
abbrev cX5_queueIn : ByteArray := prog_1_method_26_code
def yX5_queueIn : MethodName := ⟨RX5, "queueIn", "(II)I"⟩
abbrev cX5_lacks : ByteArray := prog_1_method_27_code
def yX5_lacks : MethodName := ⟨RX5, "lacks", "(I)I"⟩
abbrev cX5_count : ByteArray := prog_1_method_28_code
def yX5_count : MethodName := ⟨RX5, "count", "(I)I"⟩
abbrev cX5_total : ByteArray := prog_1_method_29_code
def yX5_total : MethodName := ⟨RX5, "total", "()LPaperStations$Station;"⟩
abbrev cX5_isHourToCome : ByteArray := prog_1_method_30_code
def yX5_isHourToCome : MethodName := ⟨RX5, "isHourToCome", "(I)Z"⟩
abbrev cX5_isPaperNumber : ByteArray := prog_1_method_31_code
def yX5_isPaperNumber : MethodName := ⟨RX5, "isPaperNumber", "(I)Z"⟩
abbrev cX5_isWithin : ByteArray := prog_1_method_32_code
def yX5_isWithin : MethodName := ⟨RX5, "isWithin", "(III)Z"⟩
def RX6 : String := "PaperStationsModel"
def TX6 : u_T := fun k => match k with
  | _ => ("", "", "", false)
def tyX6 : Nat → FieldType := fun k => match k with
  | _ => .int
abbrev wsX60 : List Cond := u_ws RX6 TX6 0
theorem nmX6 : ∀ a, a < 0 → ∀ b, b < 0 → a ≠ b → (TX6 a).2.1 ≠ (TX6 b).2.1 := by decide +kernel
theorem tyX6_ok : ∀ k, k < 0 → parseFieldDescriptor (TX6 k).2.2.1 = some (tyX6 k) := by decide +kernel
def RJ9 : String := "java/lang/Math"
def TJ9 : u_T := fun k => match k with
  | _ => ("", "", "", false)
def tyJ9 : Nat → FieldType := fun k => match k with
  | _ => .int
abbrev wsJ90 : List Cond := u_ws RJ9 TJ9 0
theorem nmJ9 : ∀ a, a < 0 → ∀ b, b < 0 → a ≠ b → (TJ9 a).2.1 ≠ (TJ9 b).2.1 := by decide +kernel
theorem tyJ9_ok : ∀ k, k < 0 → parseFieldDescriptor (TJ9 k).2.2.1 = some (tyJ9 k) := by decide +kernel
abbrev cJ9_max_7cf53 : ByteArray := prog_9_method_65_code
def yJ9_max_7cf53 : MethodName := ⟨RJ9, "max", "(II)I"⟩
abbrev cJ9_min_7cf53 : ByteArray := prog_9_method_69_code
def yJ9_min_7cf53 : MethodName := ⟨RJ9, "min", "(II)I"⟩
def RJ10 : String := "java/lang/System"
def TJ10 : u_T := fun k => match k with
  | _ => ("", "", "", false)
def tyJ10 : Nat → FieldType := fun k => match k with
  | _ => .int
abbrev wsJ100 : List Cond := u_ws RJ10 TJ10 0
theorem nmJ10 : ∀ a, a < 0 → ∀ b, b < 0 → a ≠ b → (TJ10 a).2.1 ≠ (TJ10 b).2.1 := by decide +kernel
theorem tyJ10_ok : ∀ k, k < 0 → parseFieldDescriptor (TJ10 k).2.2.1 = some (tyJ10 k) := by decide +kernel
def RL : String := "PaperStationsLaw"
abbrev cL_cell : ByteArray := method_2_code
def yL_cell : MethodName := ⟨RL, "cell", "([II)I"⟩
abbrev cL_up : ByteArray := method_3_code
def yL_up : MethodName := ⟨RL, "up", "(II)I"⟩
abbrev cL_mark : ByteArray := method_4_code
def yL_mark : MethodName := ⟨RL, "mark", "(LPaperStations;)J"⟩
abbrev cL_fails : ByteArray := method_5_code
def yL_fails : MethodName := ⟨RL, "fails", "(LPaperStations;)Z"⟩
abbrev cL_stations : ByteArray := method_6_code
def yL_stations : MethodName := ⟨RL, "stations", "(LPaperStations;[I)Z"⟩
abbrev cL_clerks : ByteArray := method_7_code
def yL_clerks : MethodName := ⟨RL, "clerks", "(LPaperStations;)Z"⟩
abbrev cL_lacks : ByteArray := method_8_code
def yL_lacks : MethodName := ⟨RL, "lacks", "(LPaperStations;I)Z"⟩
abbrev cL_passes : ByteArray := method_9_code
def yL_passes : MethodName := ⟨RL, "passes", "(LPaperStations;I)Z"⟩
abbrev cL_act : ByteArray := method_10_code
def yL_act : MethodName := ⟨RL, "act", "(LPaperStations;II[I)I"⟩
abbrev cL_law : ByteArray := code
def yL_law : MethodName := ⟨RL, "law", "([I)Z"⟩
abbrev vwCl : List vw_C := [(RX0, TX0, 3), (RX1, TX1, 6), (RX2, TX2, 5), (RX3, TX3, 2), (RX4, TX4, 13), (RX5, TX5, 7)]
/-- the tables' words that pass from state to state -/
def ps_T : List Cond := lw_tbl.filter goodWord
theorem ps_in {w : Cond} (i : Nat) (h : lw_tbl[i]? = some w) (g : goodWord w = true) : w ∈ ps_T := List.mem_filter.mpr ⟨List.mem_of_getElem? h, g⟩
theorem ps_ins (ws : List Cond) (ps : List Nat) (hp : ws = ps.filterMap (fun i => lw_tbl[i]?)) (g : ws.all goodWord = true) : ∀ w ∈ ws, w ∈ ps_T := by
  intro w hw
  have h1 := List.all_eq_true.mp g w hw
  rw [hp] at hw
  obtain ⟨i, -, hi⟩ := List.mem_filterMap.mp hw
  exact ps_in i hi h1
theorem ps_goodT : GoodIn lw_tbl ps_T := fun w h => ⟨(List.mem_filter.mp h).1, good_of_word (List.mem_filter.mp h).2⟩
theorem hinX0 : ∀ w ∈ u_ws RX0 TX0 3, w ∈ ps_T := ps_ins _ [181, 183, 185] (by decide +kernel) (by decide +kernel)
theorem hinX1 : ∀ w ∈ u_ws RX1 TX1 6, w ∈ ps_T := ps_ins _ [117, 119, 121, 123, 125, 127] (by decide +kernel) (by decide +kernel)
theorem hinX2 : ∀ w ∈ u_ws RX2 TX2 5, w ∈ ps_T := ps_ins _ [140, 142, 144, 146, 148] (by decide +kernel) (by decide +kernel)
theorem hinX3 : ∀ w ∈ u_ws RX3 TX3 2, w ∈ ps_T := ps_ins _ [165, 167] (by decide +kernel) (by decide +kernel)
theorem hinX4 : ∀ w ∈ u_ws RX4 TX4 13, w ∈ ps_T := ps_ins _ [67, 69, 71, 73, 75, 77, 79, 81, 83, 85, 87, 89, 91] (by decide +kernel) (by decide +kernel)
theorem hinX5 : ∀ w ∈ u_ws RX5 TX5 7, w ∈ ps_T := ps_ins _ [196, 198, 200, 202, 204, 206, 208] (by decide +kernel) (by decide +kernel)
theorem lk_L_14 : Cond.classLink RL 14 RX5 ∈ ps_T := ps_in 18 (by decide +kernel) (by decide +kernel)
theorem lk_L_96 : Cond.methodLink RL 96 yX5_init ∈ ps_T := ps_in 20 (by decide +kernel) (by decide +kernel)
theorem lk_X5_3 : Cond.methodLink RX5 3 objectInit ∈ ps_T := ps_in 23 (by decide +kernel) (by decide +kernel)
theorem lk_X5_9 : Cond.classLink RX5 9 RX2 ∈ ps_T := ps_in 26 (by decide +kernel) (by decide +kernel)
theorem lk_X5_11 : Cond.methodLink RX5 11 yX2_init ∈ ps_T := ps_in 28 (by decide +kernel) (by decide +kernel)
theorem lk_X2_3 : Cond.methodLink RX2 3 objectInit ∈ ps_T := ps_in 31 (by decide +kernel) (by decide +kernel)
theorem lk_X2_9 : Cond.classLink RX2 9 RX4 ∈ ps_T := ps_in 32 (by decide +kernel) (by decide +kernel)
theorem lk_X2_17 : Cond.methodLink RX2 17 yX4_init ∈ ps_T := ps_in 35 (by decide +kernel) (by decide +kernel)
theorem lk_X4_3 : Cond.methodLink RX4 3 objectInit ∈ ps_T := ps_in 38 (by decide +kernel) (by decide +kernel)
theorem lk_X4_9 : Cond.fieldLink RX4 9 "PaperStations$Station" "arrivals" "[I" ∈ ps_T := ps_in 39 (by decide +kernel) (by decide +kernel)
theorem lk_X5_73 : Cond.fieldLink RX5 73 "PaperStations$Station" "arrivals" "[I" ∈ ps_T := ps_in 40 (by decide +kernel) (by decide +kernel)
theorem lk_X2_64 : Cond.fieldLink RX2 64 "PaperStations$Station" "arrivals" "[I" ∈ ps_T := ps_in 41 (by decide +kernel) (by decide +kernel)
theorem lk_X4_21 : Cond.fieldLink RX4 21 "PaperStations$Station" "queue" "I" ∈ ps_T := ps_in 42 (by decide +kernel) (by decide +kernel)
theorem lk_X2_61 : Cond.fieldLink RX2 61 "PaperStations$Station" "queue" "I" ∈ ps_T := ps_in 43 (by decide +kernel) (by decide +kernel)
theorem lk_X5_135 : Cond.fieldLink RX5 135 "PaperStations$Station" "queue" "I" ∈ ps_T := ps_in 44 (by decide +kernel) (by decide +kernel)
theorem lk_X4_25 : Cond.fieldLink RX4 25 "PaperStations$Station" "longestQueue" "I" ∈ ps_T := ps_in 45 (by decide +kernel) (by decide +kernel)
theorem lk_X5_183 : Cond.fieldLink RX5 183 "PaperStations$Station" "longestQueue" "I" ∈ ps_T := ps_in 46 (by decide +kernel) (by decide +kernel)
theorem lk_X4_28 : Cond.fieldLink RX4 28 "PaperStations$Station" "served" "I" ∈ ps_T := ps_in 47 (by decide +kernel) (by decide +kernel)
theorem lk_X5_186 : Cond.fieldLink RX5 186 "PaperStations$Station" "served" "I" ∈ ps_T := ps_in 48 (by decide +kernel) (by decide +kernel)
theorem lk_X4_31 : Cond.fieldLink RX4 31 "PaperStations$Station" "hoursWaited" "I" ∈ ps_T := ps_in 49 (by decide +kernel) (by decide +kernel)
theorem lk_X5_189 : Cond.fieldLink RX5 189 "PaperStations$Station" "hoursWaited" "I" ∈ ps_T := ps_in 50 (by decide +kernel) (by decide +kernel)
theorem lk_X4_34 : Cond.fieldLink RX4 34 "PaperStations$Station" "stock" "I" ∈ ps_T := ps_in 51 (by decide +kernel) (by decide +kernel)
theorem lk_X5_116 : Cond.fieldLink RX5 116 "PaperStations$Station" "stock" "I" ∈ ps_T := ps_in 52 (by decide +kernel) (by decide +kernel)
theorem lk_X4_37 : Cond.fieldLink RX4 37 "PaperStations$Station" "issued" "I" ∈ ps_T := ps_in 53 (by decide +kernel) (by decide +kernel)
theorem lk_X5_125 : Cond.fieldLink RX5 125 "PaperStations$Station" "issued" "I" ∈ ps_T := ps_in 54 (by decide +kernel) (by decide +kernel)
theorem lk_X4_40 : Cond.fieldLink RX4 40 "PaperStations$Station" "spoilt" "I" ∈ ps_T := ps_in 55 (by decide +kernel) (by decide +kernel)
theorem lk_X5_122 : Cond.fieldLink RX5 122 "PaperStations$Station" "spoilt" "I" ∈ ps_T := ps_in 56 (by decide +kernel) (by decide +kernel)
theorem lk_X4_43 : Cond.fieldLink RX4 43 "PaperStations$Station" "carriedOff" "I" ∈ ps_T := ps_in 57 (by decide +kernel) (by decide +kernel)
theorem lk_X5_128 : Cond.fieldLink RX5 128 "PaperStations$Station" "carriedOff" "I" ∈ ps_T := ps_in 58 (by decide +kernel) (by decide +kernel)
theorem lk_X4_46 : Cond.fieldLink RX4 46 "PaperStations$Station" "found" "I" ∈ ps_T := ps_in 59 (by decide +kernel) (by decide +kernel)
theorem lk_X5_131 : Cond.fieldLink RX5 131 "PaperStations$Station" "found" "I" ∈ ps_T := ps_in 60 (by decide +kernel) (by decide +kernel)
theorem lk_X4_49 : Cond.fieldLink RX4 49 "PaperStations$Station" "box" "I" ∈ ps_T := ps_in 61 (by decide +kernel) (by decide +kernel)
theorem lk_X5_119 : Cond.fieldLink RX5 119 "PaperStations$Station" "box" "I" ∈ ps_T := ps_in 62 (by decide +kernel) (by decide +kernel)
theorem lk_X4_52 : Cond.fieldLink RX4 52 "PaperStations$Station" "latestCount" "I" ∈ ps_T := ps_in 63 (by decide +kernel) (by decide +kernel)
theorem lk_X5_141 : Cond.fieldLink RX5 141 "PaperStations$Station" "latestCount" "I" ∈ ps_T := ps_in 64 (by decide +kernel) (by decide +kernel)
theorem lk_X4_55 : Cond.fieldLink RX4 55 "PaperStations$Station" "timesCounted" "I" ∈ ps_T := ps_in 65 (by decide +kernel) (by decide +kernel)
theorem lk_X5_138 : Cond.fieldLink RX5 138 "PaperStations$Station" "timesCounted" "I" ∈ ps_T := ps_in 66 (by decide +kernel) (by decide +kernel)
theorem lk_X2_18 : Cond.classLink RX2 18 RX1 ∈ ps_T := ps_in 95 (by decide +kernel) (by decide +kernel)
theorem lk_X2_24 : Cond.methodLink RX2 24 yX1_init ∈ ps_T := ps_in 98 (by decide +kernel) (by decide +kernel)
theorem lk_X1_3 : Cond.methodLink RX1 3 objectInit ∈ ps_T := ps_in 101 (by decide +kernel) (by decide +kernel)
theorem lk_X1_15 : Cond.fieldLink RX1 15 "PaperStations$Clerk" "serves" "I" ∈ ps_T := ps_in 102 (by decide +kernel) (by decide +kernel)
theorem lk_X2_42 : Cond.fieldLink RX2 42 "PaperStations$Clerk" "serves" "I" ∈ ps_T := ps_in 103 (by decide +kernel) (by decide +kernel)
theorem lk_X5_205 : Cond.fieldLink RX5 205 "PaperStations$Clerk" "serves" "I" ∈ ps_T := ps_in 104 (by decide +kernel) (by decide +kernel)
theorem lk_X1_18 : Cond.fieldLink RX1 18 "PaperStations$Clerk" "longestRun" "I" ∈ ps_T := ps_in 105 (by decide +kernel) (by decide +kernel)
theorem lk_X2_45 : Cond.fieldLink RX2 45 "PaperStations$Clerk" "longestRun" "I" ∈ ps_T := ps_in 106 (by decide +kernel) (by decide +kernel)
theorem lk_X5_208 : Cond.fieldLink RX5 208 "PaperStations$Clerk" "longestRun" "I" ∈ ps_T := ps_in 107 (by decide +kernel) (by decide +kernel)
theorem lk_X1_9 : Cond.fieldLink RX1 9 "PaperStations$Clerk" "dutyStation" "I" ∈ ps_T := ps_in 108 (by decide +kernel) (by decide +kernel)
theorem lk_X2_72 : Cond.fieldLink RX2 72 "PaperStations$Clerk" "dutyStation" "I" ∈ ps_T := ps_in 109 (by decide +kernel) (by decide +kernel)
theorem lk_X5_211 : Cond.fieldLink RX5 211 "PaperStations$Clerk" "dutyStation" "I" ∈ ps_T := ps_in 110 (by decide +kernel) (by decide +kernel)
theorem lk_X1_21 : Cond.fieldLink RX1 21 "PaperStations$Clerk" "run" "I" ∈ ps_T := ps_in 111 (by decide +kernel) (by decide +kernel)
theorem lk_X5_101 : Cond.fieldLink RX5 101 "PaperStations$Clerk" "run" "I" ∈ ps_T := ps_in 112 (by decide +kernel) (by decide +kernel)
theorem lk_X1_24 : Cond.fieldLink RX1 24 "PaperStations$Clerk" "hoursWorked" "I" ∈ ps_T := ps_in 113 (by decide +kernel) (by decide +kernel)
theorem lk_X2_102 : Cond.fieldLink RX2 102 "PaperStations$Clerk" "hoursWorked" "I" ∈ ps_T := ps_in 114 (by decide +kernel) (by decide +kernel)
theorem lk_X5_214 : Cond.fieldLink RX5 214 "PaperStations$Clerk" "hoursWorked" "I" ∈ ps_T := ps_in 115 (by decide +kernel) (by decide +kernel)
theorem lk_X1_27 : Cond.fieldLink RX1 27 "PaperStations$Clerk" "restEnds" "I" ∈ ps_T := ps_in 116 (by decide +kernel) (by decide +kernel)
theorem lk_X2_25 : Cond.fieldLink RX2 25 "PaperStations$Day" "hour" "I" ∈ ps_T := ps_in 130 (by decide +kernel) (by decide +kernel)
theorem lk_X5_107 : Cond.fieldLink RX5 107 "PaperStations$Day" "hour" "I" ∈ ps_T := ps_in 131 (by decide +kernel) (by decide +kernel)
theorem lk_X5_43 : Cond.fieldLink RX5 43 "PaperStations$Day" "stationCount" "I" ∈ ps_T := ps_in 132 (by decide +kernel) (by decide +kernel)
theorem lk_X2_29 : Cond.fieldLink RX2 29 "PaperStations$Day" "stationCount" "I" ∈ ps_T := ps_in 133 (by decide +kernel) (by decide +kernel)
theorem lk_X2_32 : Cond.fieldLink RX2 32 "PaperStations$Day" "clerkCount" "I" ∈ ps_T := ps_in 134 (by decide +kernel) (by decide +kernel)
theorem lk_X5_55 : Cond.fieldLink RX5 55 "PaperStations$Day" "clerkCount" "I" ∈ ps_T := ps_in 135 (by decide +kernel) (by decide +kernel)
theorem lk_X2_11 : Cond.fieldLink RX2 11 "PaperStations$Day" "stations" "[LPaperStations$Station;" ∈ ps_T := ps_in 136 (by decide +kernel) (by decide +kernel)
theorem lk_X5_69 : Cond.fieldLink RX5 69 "PaperStations$Day" "stations" "[LPaperStations$Station;" ∈ ps_T := ps_in 137 (by decide +kernel) (by decide +kernel)
theorem lk_X2_20 : Cond.fieldLink RX2 20 "PaperStations$Day" "clerks" "[LPaperStations$Clerk;" ∈ ps_T := ps_in 138 (by decide +kernel) (by decide +kernel)
theorem lk_X5_80 : Cond.fieldLink RX5 80 "PaperStations$Day" "clerks" "[LPaperStations$Clerk;" ∈ ps_T := ps_in 139 (by decide +kernel) (by decide +kernel)
theorem lk_X5_22 : Cond.classLink RX5 22 RX4 ∈ ps_T := ps_in 151 (by decide +kernel) (by decide +kernel)
theorem lk_X5_24 : Cond.methodLink RX5 24 yX4_init ∈ ps_T := ps_in 152 (by decide +kernel) (by decide +kernel)
theorem lk_X5_29 : Cond.classLink RX5 29 RX3 ∈ ps_T := ps_in 153 (by decide +kernel) (by decide +kernel)
theorem lk_X5_31 : Cond.methodLink RX5 31 yX3_init ∈ ps_T := ps_in 155 (by decide +kernel) (by decide +kernel)
theorem lk_X3_3 : Cond.methodLink RX3 3 objectInit ∈ ps_T := ps_in 158 (by decide +kernel) (by decide +kernel)
theorem lk_X3_9 : Cond.classLink RX3 9 RX2 ∈ ps_T := ps_in 159 (by decide +kernel) (by decide +kernel)
theorem lk_X3_17 : Cond.methodLink RX3 17 yX2_init ∈ ps_T := ps_in 161 (by decide +kernel) (by decide +kernel)
theorem lk_X3_11 : Cond.fieldLink RX3 11 "PaperStations$History" "states" "[LPaperStations$Day;" ∈ ps_T := ps_in 162 (by decide +kernel) (by decide +kernel)
theorem lk_X3_18 : Cond.fieldLink RX3 18 "PaperStations$History" "size" "I" ∈ ps_T := ps_in 163 (by decide +kernel) (by decide +kernel)
theorem lk_X5_170 : Cond.fieldLink RX5 170 "PaperStations$History" "size" "I" ∈ ps_T := ps_in 164 (by decide +kernel) (by decide +kernel)
theorem lk_X5_36 : Cond.classLink RX5 36 RX0 ∈ ps_T := ps_in 170 (by decide +kernel) (by decide +kernel)
theorem lk_X5_38 : Cond.methodLink RX5 38 yX0_init ∈ ps_T := ps_in 172 (by decide +kernel) (by decide +kernel)
theorem lk_X0_3 : Cond.methodLink RX0 3 objectInit ∈ ps_T := ps_in 175 (by decide +kernel) (by decide +kernel)
theorem lk_X0_9 : Cond.fieldLink RX0 9 "PaperStations$ArrivalText" "signs" "[C" ∈ ps_T := ps_in 176 (by decide +kernel) (by decide +kernel)
theorem lk_X0_15 : Cond.fieldLink RX0 15 "PaperStations$ArrivalText" "numbers" "[I" ∈ ps_T := ps_in 177 (by decide +kernel) (by decide +kernel)
theorem lk_X5_161 : Cond.fieldLink RX5 161 "PaperStations$ArrivalText" "numbers" "[I" ∈ ps_T := ps_in 178 (by decide +kernel) (by decide +kernel)
theorem lk_X0_19 : Cond.fieldLink RX0 19 "PaperStations$ArrivalText" "length" "I" ∈ ps_T := ps_in 179 (by decide +kernel) (by decide +kernel)
theorem lk_X5_144 : Cond.fieldLink RX5 144 "PaperStations$ArrivalText" "length" "I" ∈ ps_T := ps_in 180 (by decide +kernel) (by decide +kernel)
theorem lk_X5_12 : Cond.fieldLink RX5 12 "PaperStations" "day" "LPaperStations$Day;" ∈ ps_T := ps_in 189 (by decide +kernel) (by decide +kernel)
theorem lk_X5_16 : Cond.fieldLink RX5 16 "PaperStations" "forecast" "LPaperStations$Day;" ∈ ps_T := ps_in 190 (by decide +kernel) (by decide +kernel)
theorem lk_X5_19 : Cond.fieldLink RX5 19 "PaperStations" "snapshot" "LPaperStations$Day;" ∈ ps_T := ps_in 191 (by decide +kernel) (by decide +kernel)
theorem lk_X5_179 : Cond.fieldLink RX5 179 "PaperStations" "hasSnapshot" "Z" ∈ ps_T := ps_in 192 (by decide +kernel) (by decide +kernel)
theorem lk_X5_25 : Cond.fieldLink RX5 25 "PaperStations" "total" "LPaperStations$Station;" ∈ ps_T := ps_in 193 (by decide +kernel) (by decide +kernel)
theorem lk_X5_32 : Cond.fieldLink RX5 32 "PaperStations" "history" "LPaperStations$History;" ∈ ps_T := ps_in 194 (by decide +kernel) (by decide +kernel)
theorem lk_X5_39 : Cond.fieldLink RX5 39 "PaperStations" "text" "LPaperStations$ArrivalText;" ∈ ps_T := ps_in 195 (by decide +kernel) (by decide +kernel)
theorem lk_L_108 : Cond.methodLink RL 108 yX5_addStation ∈ ps_T := ps_in 211 (by decide +kernel) (by decide +kernel)
theorem lk_X5_47 : Cond.methodLink RX5 47 yX3_remember ∈ ps_T := ps_in 215 (by decide +kernel) (by decide +kernel)
theorem lk_X3_22 : Cond.methodLink RX3 22 yX3_dropOldest ∈ ps_T := ps_in 219 (by decide +kernel) (by decide +kernel)
theorem lk_X3_25 : Cond.methodLink RX3 25 yX2_copyFrom ∈ ps_T := ps_in 223 (by decide +kernel) (by decide +kernel)
theorem lk_X2_35 : Cond.methodLink RX2 35 yX4_copyFrom ∈ ps_T := ps_in 227 (by decide +kernel) (by decide +kernel)
theorem lk_X4_15 : Cond.methodLink RX4 15 arraycopyName ∈ ps_T := ps_in 231 (by decide +kernel) (by decide +kernel)
theorem lk_X2_39 : Cond.methodLink RX2 39 yX1_copyFrom ∈ ps_T := ps_in 234 (by decide +kernel) (by decide +kernel)
theorem lk_L_38 : Cond.methodLink RL 38 yX5_addClerk ∈ ps_T := ps_in 238 (by decide +kernel) (by decide +kernel)
theorem lk_X5_51 : Cond.methodLink RX5 51 yX5_isWithin ∈ ps_T := ps_in 242 (by decide +kernel) (by decide +kernel)
theorem lk_X5_58 : Cond.methodLink RX5 58 yX2_engageClerk ∈ ps_T := ps_in 245 (by decide +kernel) (by decide +kernel)
theorem lk_L_72 : Cond.methodLink RL 72 yX5_readArrivals ∈ ps_T := ps_in 249 (by decide +kernel) (by decide +kernel)
theorem lk_X5_62 : Cond.methodLink RX5 62 yX2_hasStation ∈ ps_T := ps_in 253 (by decide +kernel) (by decide +kernel)
theorem lk_X5_66 : Cond.methodLink RX5 66 yX5_isHourToCome ∈ ps_T := ps_in 257 (by decide +kernel) (by decide +kernel)
theorem lk_X5_151 : Cond.methodLink RX5 151 yX0_fault ∈ ps_T := ps_in 261 (by decide +kernel) (by decide +kernel)
theorem lk_X0_23 : Cond.methodLink RX0 23 yX0_isDigit ∈ ps_T := ps_in 265 (by decide +kernel) (by decide +kernel)
theorem lk_X5_155 : Cond.methodLink RX5 155 yX0_readNumbers ∈ ps_T := ps_in 268 (by decide +kernel) (by decide +kernel)
theorem lk_X5_158 : Cond.methodLink RX5 158 yX0_greatestNumber ∈ ps_T := ps_in 272 (by decide +kernel) (by decide +kernel)
theorem lk_X0_27 : Cond.methodLink RX0 27 Lib.Math.max.name ∈ ps_T := ps_in 276 (by decide +kernel) (by decide +kernel)
theorem lk_X5_164 : Cond.methodLink RX5 164 arraycopyName ∈ ps_T := ps_in 279 (by decide +kernel) (by decide +kernel)
theorem lk_L_92 : Cond.methodLink RL 92 yX5_undo ∈ ps_T := ps_in 280 (by decide +kernel) (by decide +kernel)
theorem lk_X5_173 : Cond.methodLink RX5 173 yX3_takeBackInto ∈ ps_T := ps_in 284 (by decide +kernel) (by decide +kernel)
theorem lk_L_111 : Cond.methodLink RL 111 yX5_keep ∈ ps_T := ps_in 288 (by decide +kernel) (by decide +kernel)
theorem lk_X5_176 : Cond.methodLink RX5 176 yX2_copyFrom ∈ ps_T := ps_in 292 (by decide +kernel) (by decide +kernel)
theorem lk_L_97 : Cond.methodLink RL 97 yX5_restore ∈ ps_T := ps_in 293 (by decide +kernel) (by decide +kernel)
theorem lk_L_75 : Cond.methodLink RL 75 yX5_free ∈ ps_T := ps_in 297 (by decide +kernel) (by decide +kernel)
theorem lk_X5_84 : Cond.methodLink RX5 84 yX1_isFree ∈ ps_T := ps_in 301 (by decide +kernel) (by decide +kernel)
theorem lk_X1_30 : Cond.methodLink RX1 30 yX1_isOnDuty ∈ ps_T := ps_in 305 (by decide +kernel) (by decide +kernel)
theorem lk_X1_34 : Cond.methodLink RX1 34 yX1_rests ∈ ps_T := ps_in 309 (by decide +kernel) (by decide +kernel)
theorem lk_X5_220 : Cond.methodLink RX5 220 yX2_placeAmongFree ∈ ps_T := ps_in 313 (by decide +kernel) (by decide +kernel)
theorem lk_X2_95 : Cond.methodLink RX2 95 yX1_isFree ∈ ps_T := ps_in 317 (by decide +kernel) (by decide +kernel)
theorem lk_X2_98 : Cond.methodLink RX2 98 yX2_comesBefore ∈ ps_T := ps_in 318 (by decide +kernel) (by decide +kernel)
theorem lk_L_78 : Cond.methodLink RL 78 yX5_busiest ∈ ps_T := ps_in 322 (by decide +kernel) (by decide +kernel)
theorem lk_X5_223 : Cond.methodLink RX5 223 yX2_placeByQueue ∈ ps_T := ps_in 326 (by decide +kernel) (by decide +kernel)
theorem lk_L_13 : Cond.methodLink RL 13 yX5_count ∈ ps_T := ps_in 330 (by decide +kernel) (by decide +kernel)
theorem lk_X5_231 : Cond.methodLink RX5 231 yX2_clerksOnDuty ∈ ps_T := ps_in 334 (by decide +kernel) (by decide +kernel)
theorem lk_X2_105 : Cond.methodLink RX2 105 yX1_isOnDuty ∈ ps_T := ps_in 338 (by decide +kernel) (by decide +kernel)
theorem lk_X5_234 : Cond.methodLink RX5 234 yX2_freeClerks ∈ ps_T := ps_in 339 (by decide +kernel) (by decide +kernel)
theorem lk_X5_237 : Cond.methodLink RX5 237 yX5_total ∈ ps_T := ps_in 343 (by decide +kernel) (by decide +kernel)
theorem lk_X5_246 : Cond.methodLink RX5 246 yX4_becomeSumOf ∈ ps_T := ps_in 347 (by decide +kernel) (by decide +kernel)
theorem lk_X5_240 : Cond.methodLink RX5 240 yX2_stationsCounted ∈ ps_T := ps_in 351 (by decide +kernel) (by decide +kernel)
theorem lk_X2_108 : Cond.methodLink RX2 108 yX4_isCounted ∈ ps_T := ps_in 355 (by decide +kernel) (by decide +kernel)
theorem lk_X2_111 : Cond.methodLink RX2 111 yX4_countAgrees ∈ ps_T := ps_in 359 (by decide +kernel) (by decide +kernel)
theorem lk_X5_244 : Cond.methodLink RX5 244 yX2_hoursWorked ∈ ps_T := ps_in 363 (by decide +kernel) (by decide +kernel)
theorem lk_L_104 : Cond.methodLink RL 104 yL_cell ∈ ps_T := ps_in 367 (by decide +kernel) (by decide +kernel)
theorem lk_L_7 : Cond.constant RL 7 (763049417) ∈ ps_T := ps_in 370 (by decide +kernel) (by decide +kernel)
theorem lk_L_89 : Cond.methodLink RL 89 yL_up ∈ ps_T := ps_in 371 (by decide +kernel) (by decide +kernel)
theorem lk_L_8 : Cond.constant RL 8 (2147483647) ∈ ps_T := ps_in 374 (by decide +kernel) (by decide +kernel)
theorem lk_L_32 : Cond.methodLink RL 32 yL_mark ∈ ps_T := ps_in 375 (by decide +kernel) (by decide +kernel)
theorem lk_L_9 : Cond.constantLong RL 9 (17) ∈ ps_T := ps_in 378 (by decide +kernel) (by decide +kernel)
theorem lk_L_11 : Cond.constantLong RL 11 (31) ∈ ps_T := ps_in 379 (by decide +kernel) (by decide +kernel)
theorem lk_L_19 : Cond.methodLink RL 19 yX5_station ∈ ps_T := ps_in 380 (by decide +kernel) (by decide +kernel)
theorem lk_X5_94 : Cond.methodLink RX5 94 yX2_clerksAt ∈ ps_T := ps_in 384 (by decide +kernel) (by decide +kernel)
theorem lk_X5_192 : Cond.methodLink RX5 192 yX2_servedAnHourAt ∈ ps_T := ps_in 388 (by decide +kernel) (by decide +kernel)
theorem lk_X5_195 : Cond.methodLink RX5 195 yX4_allArrivals ∈ ps_T := ps_in 392 (by decide +kernel) (by decide +kernel)
theorem lk_X5_198 : Cond.methodLink RX5 198 yX2_hoursForQueueOf ∈ ps_T := ps_in 396 (by decide +kernel) (by decide +kernel)
theorem lk_X2_85 : Cond.methodLink RX2 85 yX2_servedAnHourAt ∈ ps_T := ps_in 400 (by decide +kernel) (by decide +kernel)
theorem lk_L_23 : Cond.methodLink RL 23 yX5_papers ∈ ps_T := ps_in 401 (by decide +kernel) (by decide +kernel)
theorem lk_X5_201 : Cond.methodLink RX5 201 yX4_isCounted ∈ ps_T := ps_in 405 (by decide +kernel) (by decide +kernel)
theorem lk_X5_204 : Cond.constant RX5 204 (100000) ∈ ps_T := ps_in 406 (by decide +kernel) (by decide +kernel)
theorem lk_L_26 : Cond.methodLink RL 26 yX5_arrivals ∈ ps_T := ps_in 407 (by decide +kernel) (by decide +kernel)
theorem lk_L_29 : Cond.methodLink RL 29 yX5_clerk ∈ ps_T := ps_in 411 (by decide +kernel) (by decide +kernel)
theorem lk_X5_77 : Cond.methodLink RX5 77 yX2_hasClerk ∈ ps_T := ps_in 415 (by decide +kernel) (by decide +kernel)
theorem lk_X5_217 : Cond.methodLink RX5 217 yX1_rests ∈ ps_T := ps_in 419 (by decide +kernel) (by decide +kernel)
theorem lk_L_100 : Cond.methodLink RL 100 yL_fails ∈ ps_T := ps_in 420 (by decide +kernel) (by decide +kernel)
theorem lk_L_41 : Cond.methodLink RL 41 yX5_setArrivals ∈ ps_T := ps_in 423 (by decide +kernel) (by decide +kernel)
theorem lk_L_45 : Cond.methodLink RL 45 yX5_assign ∈ ps_T := ps_in 427 (by decide +kernel) (by decide +kernel)
theorem lk_X5_90 : Cond.methodLink RX5 90 yX1_comeTo ∈ ps_T := ps_in 431 (by decide +kernel) (by decide +kernel)
theorem lk_L_48 : Cond.methodLink RL 48 yX5_relieve ∈ ps_T := ps_in 435 (by decide +kernel) (by decide +kernel)
theorem lk_X5_98 : Cond.methodLink RX5 98 yX1_isOnDuty ∈ ps_T := ps_in 439 (by decide +kernel) (by decide +kernel)
theorem lk_X5_104 : Cond.methodLink RX5 104 yX1_leaveDuty ∈ ps_T := ps_in 440 (by decide +kernel) (by decide +kernel)
theorem lk_L_51 : Cond.methodLink RL 51 yX5_pass ∈ ps_T := ps_in 444 (by decide +kernel) (by decide +kernel)
theorem lk_X5_110 : Cond.methodLink RX5 110 yX2_letHoursPass ∈ ps_T := ps_in 448 (by decide +kernel) (by decide +kernel)
theorem lk_X2_48 : Cond.methodLink RX2 48 yX2_letArrive ∈ ps_T := ps_in 452 (by decide +kernel) (by decide +kernel)
theorem lk_X2_51 : Cond.methodLink RX2 51 yX2_changeClerks ∈ ps_T := ps_in 456 (by decide +kernel) (by decide +kernel)
theorem lk_X2_68 : Cond.methodLink RX2 68 yX1_mustLeave ∈ ps_T := ps_in 460 (by decide +kernel) (by decide +kernel)
theorem lk_X2_75 : Cond.methodLink RX2 75 yX1_leaveDuty ∈ ps_T := ps_in 464 (by decide +kernel) (by decide +kernel)
theorem lk_X2_79 : Cond.methodLink RX2 79 yX2_firstFree ∈ ps_T := ps_in 465 (by decide +kernel) (by decide +kernel)
theorem lk_X2_82 : Cond.methodLink RX2 82 yX1_comeTo ∈ ps_T := ps_in 469 (by decide +kernel) (by decide +kernel)
theorem lk_X2_54 : Cond.methodLink RX2 54 yX2_serveQueues ∈ ps_T := ps_in 470 (by decide +kernel) (by decide +kernel)
theorem lk_X2_89 : Cond.methodLink RX2 89 yX4_serveQueue ∈ ps_T := ps_in 474 (by decide +kernel) (by decide +kernel)
theorem lk_X4_58 : Cond.methodLink RX4 58 Lib.Math.min.name ∈ ps_T := ps_in 478 (by decide +kernel) (by decide +kernel)
theorem lk_X4_64 : Cond.methodLink RX4 64 Lib.Math.max.name ∈ ps_T := ps_in 481 (by decide +kernel) (by decide +kernel)
theorem lk_X2_58 : Cond.methodLink RX2 58 yX2_endHourOfClerks ∈ ps_T := ps_in 482 (by decide +kernel) (by decide +kernel)
theorem lk_X2_92 : Cond.methodLink RX2 92 yX1_endHour ∈ ps_T := ps_in 486 (by decide +kernel) (by decide +kernel)
theorem lk_L_54 : Cond.methodLink RL 54 yX5_supply ∈ ps_T := ps_in 490 (by decide +kernel) (by decide +kernel)
theorem lk_X5_113 : Cond.methodLink RX5 113 yX5_isPaperNumber ∈ ps_T := ps_in 494 (by decide +kernel) (by decide +kernel)
theorem lk_L_57 : Cond.methodLink RL 57 yX5_movePapers ∈ ps_T := ps_in 497 (by decide +kernel) (by decide +kernel)
theorem lk_L_60 : Cond.methodLink RL 60 yX5_spoil ∈ ps_T := ps_in 501 (by decide +kernel) (by decide +kernel)
theorem lk_L_63 : Cond.methodLink RL 63 yX5_carryOff ∈ ps_T := ps_in 505 (by decide +kernel) (by decide +kernel)
theorem lk_L_66 : Cond.methodLink RL 66 yX5_find ∈ ps_T := ps_in 509 (by decide +kernel) (by decide +kernel)
theorem lk_L_69 : Cond.methodLink RL 69 yX5_countBox ∈ ps_T := ps_in 513 (by decide +kernel) (by decide +kernel)
theorem lk_X5_134 : Cond.constant RX5 134 (99999) ∈ ps_T := ps_in 517 (by decide +kernel) (by decide +kernel)
theorem lk_L_81 : Cond.methodLink RL 81 yX5_queueIn ∈ ps_T := ps_in 518 (by decide +kernel) (by decide +kernel)
theorem lk_L_84 : Cond.methodLink RL 84 yX5_lacks ∈ ps_T := ps_in 522 (by decide +kernel) (by decide +kernel)
theorem lk_X5_226 : Cond.methodLink RX5 226 Lib.Math.max.name ∈ ps_T := ps_in 526 (by decide +kernel) (by decide +kernel)
theorem lk_L_87 : Cond.constant RL 87 (100000) ∈ ps_T := ps_in 527 (by decide +kernel) (by decide +kernel)
theorem lk_L_122 : Cond.methodLink RL 122 yL_stations ∈ ps_T := ps_in 528 (by decide +kernel) (by decide +kernel)
theorem lk_L_88 : Cond.constant RL 88 (10000000) ∈ ps_T := ps_in 531 (by decide +kernel) (by decide +kernel)
theorem lk_L_126 : Cond.methodLink RL 126 yL_clerks ∈ ps_T := ps_in 532 (by decide +kernel) (by decide +kernel)
theorem lk_L_129 : Cond.methodLink RL 129 yL_lacks ∈ ps_T := ps_in 535 (by decide +kernel) (by decide +kernel)
theorem lk_L_114 : Cond.methodLink RL 114 yL_passes ∈ ps_T := ps_in 538 (by decide +kernel) (by decide +kernel)
theorem lk_L_118 : Cond.methodLink RL 118 yL_act ∈ ps_T := ps_in 541 (by decide +kernel) (by decide +kernel)
theorem yw_X0_init : Cond.instanceMethod yX0_init ∈ ps_T ∧ Cond.initialized RX0 ∈ ps_T ∧ Cond.code yX0_init cX0_init 1 none ∈ ps_T := ⟨ps_in 173 (by decide +kernel) (by decide +kernel), ps_in 15 (by decide +kernel) (by decide +kernel), ps_in 174 (by decide +kernel) (by decide +kernel)⟩
theorem yw_X0_fault : Cond.instanceMethod yX0_fault ∈ ps_T ∧ Cond.selects RX0 yX0_fault yX0_fault ∈ ps_T ∧ Cond.initialized RX0 ∈ ps_T ∧ Cond.code yX0_fault cX0_fault 5 (some .int) ∈ ps_T := ⟨ps_in 262 (by decide +kernel) (by decide +kernel), ps_in 263 (by decide +kernel) (by decide +kernel), ps_in 15 (by decide +kernel) (by decide +kernel), ps_in 264 (by decide +kernel) (by decide +kernel)⟩
theorem yw_X0_readNumbers : Cond.instanceMethod yX0_readNumbers ∈ ps_T ∧ Cond.selects RX0 yX0_readNumbers yX0_readNumbers ∈ ps_T ∧ Cond.initialized RX0 ∈ ps_T ∧ Cond.code yX0_readNumbers cX0_readNumbers 3 (some .int) ∈ ps_T := ⟨ps_in 269 (by decide +kernel) (by decide +kernel), ps_in 270 (by decide +kernel) (by decide +kernel), ps_in 15 (by decide +kernel) (by decide +kernel), ps_in 271 (by decide +kernel) (by decide +kernel)⟩
theorem yw_X0_greatestNumber : Cond.instanceMethod yX0_greatestNumber ∈ ps_T ∧ Cond.selects RX0 yX0_greatestNumber yX0_greatestNumber ∈ ps_T ∧ Cond.initialized RX0 ∈ ps_T ∧ Cond.code yX0_greatestNumber cX0_greatestNumber 4 (some .int) ∈ ps_T := ⟨ps_in 273 (by decide +kernel) (by decide +kernel), ps_in 274 (by decide +kernel) (by decide +kernel), ps_in 15 (by decide +kernel) (by decide +kernel), ps_in 275 (by decide +kernel) (by decide +kernel)⟩
theorem yw_X0_isDigit : Cond.static yX0_isDigit ∈ ps_T ∧ Cond.initialized RX0 ∈ ps_T ∧ Cond.code yX0_isDigit cX0_isDigit 1 (some .boolean) ∈ ps_T := ⟨ps_in 266 (by decide +kernel) (by decide +kernel), ps_in 15 (by decide +kernel) (by decide +kernel), ps_in 267 (by decide +kernel) (by decide +kernel)⟩
theorem yw_X1_init : Cond.instanceMethod yX1_init ∈ ps_T ∧ Cond.initialized RX1 ∈ ps_T ∧ Cond.code yX1_init cX1_init 1 none ∈ ps_T := ⟨ps_in 99 (by decide +kernel) (by decide +kernel), ps_in 13 (by decide +kernel) (by decide +kernel), ps_in 100 (by decide +kernel) (by decide +kernel)⟩
theorem yw_X1_copyFrom : Cond.instanceMethod yX1_copyFrom ∈ ps_T ∧ Cond.selects RX1 yX1_copyFrom yX1_copyFrom ∈ ps_T ∧ Cond.initialized RX1 ∈ ps_T ∧ Cond.code yX1_copyFrom cX1_copyFrom 2 none ∈ ps_T := ⟨ps_in 235 (by decide +kernel) (by decide +kernel), ps_in 236 (by decide +kernel) (by decide +kernel), ps_in 13 (by decide +kernel) (by decide +kernel), ps_in 237 (by decide +kernel) (by decide +kernel)⟩
theorem yw_X1_isOnDuty : Cond.instanceMethod yX1_isOnDuty ∈ ps_T ∧ Cond.selects RX1 yX1_isOnDuty yX1_isOnDuty ∈ ps_T ∧ Cond.initialized RX1 ∈ ps_T ∧ Cond.code yX1_isOnDuty cX1_isOnDuty 1 (some .boolean) ∈ ps_T := ⟨ps_in 306 (by decide +kernel) (by decide +kernel), ps_in 307 (by decide +kernel) (by decide +kernel), ps_in 13 (by decide +kernel) (by decide +kernel), ps_in 308 (by decide +kernel) (by decide +kernel)⟩
theorem yw_X1_rests : Cond.instanceMethod yX1_rests ∈ ps_T ∧ Cond.selects RX1 yX1_rests yX1_rests ∈ ps_T ∧ Cond.initialized RX1 ∈ ps_T ∧ Cond.code yX1_rests cX1_rests 1 (some .boolean) ∈ ps_T := ⟨ps_in 310 (by decide +kernel) (by decide +kernel), ps_in 311 (by decide +kernel) (by decide +kernel), ps_in 13 (by decide +kernel) (by decide +kernel), ps_in 312 (by decide +kernel) (by decide +kernel)⟩
theorem yw_X1_isFree : Cond.instanceMethod yX1_isFree ∈ ps_T ∧ Cond.selects RX1 yX1_isFree yX1_isFree ∈ ps_T ∧ Cond.initialized RX1 ∈ ps_T ∧ Cond.code yX1_isFree cX1_isFree 1 (some .boolean) ∈ ps_T := ⟨ps_in 302 (by decide +kernel) (by decide +kernel), ps_in 303 (by decide +kernel) (by decide +kernel), ps_in 13 (by decide +kernel) (by decide +kernel), ps_in 304 (by decide +kernel) (by decide +kernel)⟩
theorem yw_X1_mustLeave : Cond.instanceMethod yX1_mustLeave ∈ ps_T ∧ Cond.selects RX1 yX1_mustLeave yX1_mustLeave ∈ ps_T ∧ Cond.initialized RX1 ∈ ps_T ∧ Cond.code yX1_mustLeave cX1_mustLeave 1 (some .boolean) ∈ ps_T := ⟨ps_in 461 (by decide +kernel) (by decide +kernel), ps_in 462 (by decide +kernel) (by decide +kernel), ps_in 13 (by decide +kernel) (by decide +kernel), ps_in 463 (by decide +kernel) (by decide +kernel)⟩
theorem yw_X1_comeTo : Cond.instanceMethod yX1_comeTo ∈ ps_T ∧ Cond.selects RX1 yX1_comeTo yX1_comeTo ∈ ps_T ∧ Cond.initialized RX1 ∈ ps_T ∧ Cond.code yX1_comeTo cX1_comeTo 2 none ∈ ps_T := ⟨ps_in 432 (by decide +kernel) (by decide +kernel), ps_in 433 (by decide +kernel) (by decide +kernel), ps_in 13 (by decide +kernel) (by decide +kernel), ps_in 434 (by decide +kernel) (by decide +kernel)⟩
theorem yw_X1_leaveDuty : Cond.instanceMethod yX1_leaveDuty ∈ ps_T ∧ Cond.selects RX1 yX1_leaveDuty yX1_leaveDuty ∈ ps_T ∧ Cond.initialized RX1 ∈ ps_T ∧ Cond.code yX1_leaveDuty cX1_leaveDuty 2 none ∈ ps_T := ⟨ps_in 441 (by decide +kernel) (by decide +kernel), ps_in 442 (by decide +kernel) (by decide +kernel), ps_in 13 (by decide +kernel) (by decide +kernel), ps_in 443 (by decide +kernel) (by decide +kernel)⟩
theorem yw_X1_endHour : Cond.instanceMethod yX1_endHour ∈ ps_T ∧ Cond.selects RX1 yX1_endHour yX1_endHour ∈ ps_T ∧ Cond.initialized RX1 ∈ ps_T ∧ Cond.code yX1_endHour cX1_endHour 1 none ∈ ps_T := ⟨ps_in 487 (by decide +kernel) (by decide +kernel), ps_in 488 (by decide +kernel) (by decide +kernel), ps_in 13 (by decide +kernel) (by decide +kernel), ps_in 489 (by decide +kernel) (by decide +kernel)⟩
theorem yw_X2_init : Cond.instanceMethod yX2_init ∈ ps_T ∧ Cond.initialized RX2 ∈ ps_T ∧ Cond.code yX2_init cX2_init 2 none ∈ ps_T := ⟨ps_in 29 (by decide +kernel) (by decide +kernel), ps_in 11 (by decide +kernel) (by decide +kernel), ps_in 30 (by decide +kernel) (by decide +kernel)⟩
theorem yw_X2_copyFrom : Cond.instanceMethod yX2_copyFrom ∈ ps_T ∧ Cond.selects RX2 yX2_copyFrom yX2_copyFrom ∈ ps_T ∧ Cond.initialized RX2 ∈ ps_T ∧ Cond.code yX2_copyFrom cX2_copyFrom 3 none ∈ ps_T := ⟨ps_in 224 (by decide +kernel) (by decide +kernel), ps_in 225 (by decide +kernel) (by decide +kernel), ps_in 11 (by decide +kernel) (by decide +kernel), ps_in 226 (by decide +kernel) (by decide +kernel)⟩
theorem yw_X2_hasStation : Cond.instanceMethod yX2_hasStation ∈ ps_T ∧ Cond.selects RX2 yX2_hasStation yX2_hasStation ∈ ps_T ∧ Cond.initialized RX2 ∈ ps_T ∧ Cond.code yX2_hasStation cX2_hasStation 2 (some .boolean) ∈ ps_T := ⟨ps_in 254 (by decide +kernel) (by decide +kernel), ps_in 255 (by decide +kernel) (by decide +kernel), ps_in 11 (by decide +kernel) (by decide +kernel), ps_in 256 (by decide +kernel) (by decide +kernel)⟩
theorem yw_X2_hasClerk : Cond.instanceMethod yX2_hasClerk ∈ ps_T ∧ Cond.selects RX2 yX2_hasClerk yX2_hasClerk ∈ ps_T ∧ Cond.initialized RX2 ∈ ps_T ∧ Cond.code yX2_hasClerk cX2_hasClerk 2 (some .boolean) ∈ ps_T := ⟨ps_in 416 (by decide +kernel) (by decide +kernel), ps_in 417 (by decide +kernel) (by decide +kernel), ps_in 11 (by decide +kernel) (by decide +kernel), ps_in 418 (by decide +kernel) (by decide +kernel)⟩
theorem yw_X2_engageClerk : Cond.instanceMethod yX2_engageClerk ∈ ps_T ∧ Cond.selects RX2 yX2_engageClerk yX2_engageClerk ∈ ps_T ∧ Cond.initialized RX2 ∈ ps_T ∧ Cond.code yX2_engageClerk cX2_engageClerk 3 (some .int) ∈ ps_T := ⟨ps_in 246 (by decide +kernel) (by decide +kernel), ps_in 247 (by decide +kernel) (by decide +kernel), ps_in 11 (by decide +kernel) (by decide +kernel), ps_in 248 (by decide +kernel) (by decide +kernel)⟩
theorem yw_X2_letHoursPass : Cond.instanceMethod yX2_letHoursPass ∈ ps_T ∧ Cond.selects RX2 yX2_letHoursPass yX2_letHoursPass ∈ ps_T ∧ Cond.initialized RX2 ∈ ps_T ∧ Cond.code yX2_letHoursPass cX2_letHoursPass 4 (some .int) ∈ ps_T := ⟨ps_in 449 (by decide +kernel) (by decide +kernel), ps_in 450 (by decide +kernel) (by decide +kernel), ps_in 11 (by decide +kernel) (by decide +kernel), ps_in 451 (by decide +kernel) (by decide +kernel)⟩
theorem yw_X2_letArrive : Cond.instanceMethod yX2_letArrive ∈ ps_T ∧ Cond.selects RX2 yX2_letArrive yX2_letArrive ∈ ps_T ∧ Cond.initialized RX2 ∈ ps_T ∧ Cond.code yX2_letArrive cX2_letArrive 2 none ∈ ps_T := ⟨ps_in 454 (by decide +kernel) (by decide +kernel), ps_in 4 (by decide +kernel) (by decide +kernel), ps_in 11 (by decide +kernel) (by decide +kernel), ps_in 455 (by decide +kernel) (by decide +kernel)⟩
theorem yw_X2_changeClerks : Cond.instanceMethod yX2_changeClerks ∈ ps_T ∧ Cond.selects RX2 yX2_changeClerks yX2_changeClerks ∈ ps_T ∧ Cond.initialized RX2 ∈ ps_T ∧ Cond.code yX2_changeClerks cX2_changeClerks 4 none ∈ ps_T := ⟨ps_in 458 (by decide +kernel) (by decide +kernel), ps_in 5 (by decide +kernel) (by decide +kernel), ps_in 11 (by decide +kernel) (by decide +kernel), ps_in 459 (by decide +kernel) (by decide +kernel)⟩
theorem yw_X2_serveQueues : Cond.instanceMethod yX2_serveQueues ∈ ps_T ∧ Cond.selects RX2 yX2_serveQueues yX2_serveQueues ∈ ps_T ∧ Cond.initialized RX2 ∈ ps_T ∧ Cond.code yX2_serveQueues cX2_serveQueues 3 (some .int) ∈ ps_T := ⟨ps_in 472 (by decide +kernel) (by decide +kernel), ps_in 7 (by decide +kernel) (by decide +kernel), ps_in 11 (by decide +kernel) (by decide +kernel), ps_in 473 (by decide +kernel) (by decide +kernel)⟩
theorem yw_X2_endHourOfClerks : Cond.instanceMethod yX2_endHourOfClerks ∈ ps_T ∧ Cond.selects RX2 yX2_endHourOfClerks yX2_endHourOfClerks ∈ ps_T ∧ Cond.initialized RX2 ∈ ps_T ∧ Cond.code yX2_endHourOfClerks cX2_endHourOfClerks 2 none ∈ ps_T := ⟨ps_in 484 (by decide +kernel) (by decide +kernel), ps_in 8 (by decide +kernel) (by decide +kernel), ps_in 11 (by decide +kernel) (by decide +kernel), ps_in 485 (by decide +kernel) (by decide +kernel)⟩
theorem yw_X2_firstFree : Cond.instanceMethod yX2_firstFree ∈ ps_T ∧ Cond.selects RX2 yX2_firstFree yX2_firstFree ∈ ps_T ∧ Cond.initialized RX2 ∈ ps_T ∧ Cond.code yX2_firstFree cX2_firstFree 3 (some .int) ∈ ps_T := ⟨ps_in 467 (by decide +kernel) (by decide +kernel), ps_in 6 (by decide +kernel) (by decide +kernel), ps_in 11 (by decide +kernel) (by decide +kernel), ps_in 468 (by decide +kernel) (by decide +kernel)⟩
theorem yw_X2_comesBefore : Cond.instanceMethod yX2_comesBefore ∈ ps_T ∧ Cond.selects RX2 yX2_comesBefore yX2_comesBefore ∈ ps_T ∧ Cond.initialized RX2 ∈ ps_T ∧ Cond.code yX2_comesBefore cX2_comesBefore 4 (some .boolean) ∈ ps_T := ⟨ps_in 320 (by decide +kernel) (by decide +kernel), ps_in 2 (by decide +kernel) (by decide +kernel), ps_in 11 (by decide +kernel) (by decide +kernel), ps_in 321 (by decide +kernel) (by decide +kernel)⟩
theorem yw_X2_placeAmongFree : Cond.instanceMethod yX2_placeAmongFree ∈ ps_T ∧ Cond.selects RX2 yX2_placeAmongFree yX2_placeAmongFree ∈ ps_T ∧ Cond.initialized RX2 ∈ ps_T ∧ Cond.code yX2_placeAmongFree cX2_placeAmongFree 4 (some .int) ∈ ps_T := ⟨ps_in 314 (by decide +kernel) (by decide +kernel), ps_in 315 (by decide +kernel) (by decide +kernel), ps_in 11 (by decide +kernel) (by decide +kernel), ps_in 316 (by decide +kernel) (by decide +kernel)⟩
theorem yw_X2_placeByQueue : Cond.instanceMethod yX2_placeByQueue ∈ ps_T ∧ Cond.selects RX2 yX2_placeByQueue yX2_placeByQueue ∈ ps_T ∧ Cond.initialized RX2 ∈ ps_T ∧ Cond.code yX2_placeByQueue cX2_placeByQueue 5 (some .int) ∈ ps_T := ⟨ps_in 327 (by decide +kernel) (by decide +kernel), ps_in 328 (by decide +kernel) (by decide +kernel), ps_in 11 (by decide +kernel) (by decide +kernel), ps_in 329 (by decide +kernel) (by decide +kernel)⟩
theorem yw_X2_clerksAt : Cond.instanceMethod yX2_clerksAt ∈ ps_T ∧ Cond.selects RX2 yX2_clerksAt yX2_clerksAt ∈ ps_T ∧ Cond.initialized RX2 ∈ ps_T ∧ Cond.code yX2_clerksAt cX2_clerksAt 4 (some .int) ∈ ps_T := ⟨ps_in 385 (by decide +kernel) (by decide +kernel), ps_in 386 (by decide +kernel) (by decide +kernel), ps_in 11 (by decide +kernel) (by decide +kernel), ps_in 387 (by decide +kernel) (by decide +kernel)⟩
theorem yw_X2_servedAnHourAt : Cond.instanceMethod yX2_servedAnHourAt ∈ ps_T ∧ Cond.selects RX2 yX2_servedAnHourAt yX2_servedAnHourAt ∈ ps_T ∧ Cond.initialized RX2 ∈ ps_T ∧ Cond.code yX2_servedAnHourAt cX2_servedAnHourAt 4 (some .int) ∈ ps_T := ⟨ps_in 389 (by decide +kernel) (by decide +kernel), ps_in 390 (by decide +kernel) (by decide +kernel), ps_in 11 (by decide +kernel) (by decide +kernel), ps_in 391 (by decide +kernel) (by decide +kernel)⟩
theorem yw_X2_hoursForQueueOf : Cond.instanceMethod yX2_hoursForQueueOf ∈ ps_T ∧ Cond.selects RX2 yX2_hoursForQueueOf yX2_hoursForQueueOf ∈ ps_T ∧ Cond.initialized RX2 ∈ ps_T ∧ Cond.code yX2_hoursForQueueOf cX2_hoursForQueueOf 4 (some .int) ∈ ps_T := ⟨ps_in 397 (by decide +kernel) (by decide +kernel), ps_in 398 (by decide +kernel) (by decide +kernel), ps_in 11 (by decide +kernel) (by decide +kernel), ps_in 399 (by decide +kernel) (by decide +kernel)⟩
theorem yw_X2_clerksOnDuty : Cond.instanceMethod yX2_clerksOnDuty ∈ ps_T ∧ Cond.selects RX2 yX2_clerksOnDuty yX2_clerksOnDuty ∈ ps_T ∧ Cond.initialized RX2 ∈ ps_T ∧ Cond.code yX2_clerksOnDuty cX2_clerksOnDuty 3 (some .int) ∈ ps_T := ⟨ps_in 335 (by decide +kernel) (by decide +kernel), ps_in 336 (by decide +kernel) (by decide +kernel), ps_in 11 (by decide +kernel) (by decide +kernel), ps_in 337 (by decide +kernel) (by decide +kernel)⟩
theorem yw_X2_freeClerks : Cond.instanceMethod yX2_freeClerks ∈ ps_T ∧ Cond.selects RX2 yX2_freeClerks yX2_freeClerks ∈ ps_T ∧ Cond.initialized RX2 ∈ ps_T ∧ Cond.code yX2_freeClerks cX2_freeClerks 3 (some .int) ∈ ps_T := ⟨ps_in 340 (by decide +kernel) (by decide +kernel), ps_in 341 (by decide +kernel) (by decide +kernel), ps_in 11 (by decide +kernel) (by decide +kernel), ps_in 342 (by decide +kernel) (by decide +kernel)⟩
theorem yw_X2_hoursWorked : Cond.instanceMethod yX2_hoursWorked ∈ ps_T ∧ Cond.selects RX2 yX2_hoursWorked yX2_hoursWorked ∈ ps_T ∧ Cond.initialized RX2 ∈ ps_T ∧ Cond.code yX2_hoursWorked cX2_hoursWorked 3 (some .int) ∈ ps_T := ⟨ps_in 364 (by decide +kernel) (by decide +kernel), ps_in 365 (by decide +kernel) (by decide +kernel), ps_in 11 (by decide +kernel) (by decide +kernel), ps_in 366 (by decide +kernel) (by decide +kernel)⟩
theorem yw_X2_stationsCounted : Cond.instanceMethod yX2_stationsCounted ∈ ps_T ∧ Cond.selects RX2 yX2_stationsCounted yX2_stationsCounted ∈ ps_T ∧ Cond.initialized RX2 ∈ ps_T ∧ Cond.code yX2_stationsCounted cX2_stationsCounted 4 (some .int) ∈ ps_T := ⟨ps_in 352 (by decide +kernel) (by decide +kernel), ps_in 353 (by decide +kernel) (by decide +kernel), ps_in 11 (by decide +kernel) (by decide +kernel), ps_in 354 (by decide +kernel) (by decide +kernel)⟩
theorem yw_X3_init : Cond.instanceMethod yX3_init ∈ ps_T ∧ Cond.initialized RX3 ∈ ps_T ∧ Cond.code yX3_init cX3_init 2 none ∈ ps_T := ⟨ps_in 156 (by decide +kernel) (by decide +kernel), ps_in 14 (by decide +kernel) (by decide +kernel), ps_in 157 (by decide +kernel) (by decide +kernel)⟩
theorem yw_X3_remember : Cond.instanceMethod yX3_remember ∈ ps_T ∧ Cond.selects RX3 yX3_remember yX3_remember ∈ ps_T ∧ Cond.initialized RX3 ∈ ps_T ∧ Cond.code yX3_remember cX3_remember 2 none ∈ ps_T := ⟨ps_in 216 (by decide +kernel) (by decide +kernel), ps_in 217 (by decide +kernel) (by decide +kernel), ps_in 14 (by decide +kernel) (by decide +kernel), ps_in 218 (by decide +kernel) (by decide +kernel)⟩
theorem yw_X3_dropOldest : Cond.instanceMethod yX3_dropOldest ∈ ps_T ∧ Cond.selects RX3 yX3_dropOldest yX3_dropOldest ∈ ps_T ∧ Cond.initialized RX3 ∈ ps_T ∧ Cond.code yX3_dropOldest cX3_dropOldest 3 none ∈ ps_T := ⟨ps_in 221 (by decide +kernel) (by decide +kernel), ps_in 0 (by decide +kernel) (by decide +kernel), ps_in 14 (by decide +kernel) (by decide +kernel), ps_in 222 (by decide +kernel) (by decide +kernel)⟩
theorem yw_X3_takeBackInto : Cond.instanceMethod yX3_takeBackInto ∈ ps_T ∧ Cond.selects RX3 yX3_takeBackInto yX3_takeBackInto ∈ ps_T ∧ Cond.initialized RX3 ∈ ps_T ∧ Cond.code yX3_takeBackInto cX3_takeBackInto 2 none ∈ ps_T := ⟨ps_in 285 (by decide +kernel) (by decide +kernel), ps_in 286 (by decide +kernel) (by decide +kernel), ps_in 14 (by decide +kernel) (by decide +kernel), ps_in 287 (by decide +kernel) (by decide +kernel)⟩
theorem yw_X4_init : Cond.instanceMethod yX4_init ∈ ps_T ∧ Cond.initialized RX4 ∈ ps_T ∧ Cond.code yX4_init cX4_init 1 none ∈ ps_T := ⟨ps_in 36 (by decide +kernel) (by decide +kernel), ps_in 12 (by decide +kernel) (by decide +kernel), ps_in 37 (by decide +kernel) (by decide +kernel)⟩
theorem yw_X4_copyFrom : Cond.instanceMethod yX4_copyFrom ∈ ps_T ∧ Cond.selects RX4 yX4_copyFrom yX4_copyFrom ∈ ps_T ∧ Cond.initialized RX4 ∈ ps_T ∧ Cond.code yX4_copyFrom cX4_copyFrom 2 none ∈ ps_T := ⟨ps_in 228 (by decide +kernel) (by decide +kernel), ps_in 229 (by decide +kernel) (by decide +kernel), ps_in 12 (by decide +kernel) (by decide +kernel), ps_in 230 (by decide +kernel) (by decide +kernel)⟩
theorem yw_X4_becomeSumOf : Cond.instanceMethod yX4_becomeSumOf ∈ ps_T ∧ Cond.selects RX4 yX4_becomeSumOf yX4_becomeSumOf ∈ ps_T ∧ Cond.initialized RX4 ∈ ps_T ∧ Cond.code yX4_becomeSumOf cX4_becomeSumOf 4 none ∈ ps_T := ⟨ps_in 348 (by decide +kernel) (by decide +kernel), ps_in 349 (by decide +kernel) (by decide +kernel), ps_in 12 (by decide +kernel) (by decide +kernel), ps_in 350 (by decide +kernel) (by decide +kernel)⟩
theorem yw_X4_serveQueue : Cond.instanceMethod yX4_serveQueue ∈ ps_T ∧ Cond.selects RX4 yX4_serveQueue yX4_serveQueue ∈ ps_T ∧ Cond.initialized RX4 ∈ ps_T ∧ Cond.code yX4_serveQueue cX4_serveQueue 3 (some .int) ∈ ps_T := ⟨ps_in 475 (by decide +kernel) (by decide +kernel), ps_in 476 (by decide +kernel) (by decide +kernel), ps_in 12 (by decide +kernel) (by decide +kernel), ps_in 477 (by decide +kernel) (by decide +kernel)⟩
theorem yw_X4_allArrivals : Cond.instanceMethod yX4_allArrivals ∈ ps_T ∧ Cond.selects RX4 yX4_allArrivals yX4_allArrivals ∈ ps_T ∧ Cond.initialized RX4 ∈ ps_T ∧ Cond.code yX4_allArrivals cX4_allArrivals 3 (some .int) ∈ ps_T := ⟨ps_in 393 (by decide +kernel) (by decide +kernel), ps_in 394 (by decide +kernel) (by decide +kernel), ps_in 12 (by decide +kernel) (by decide +kernel), ps_in 395 (by decide +kernel) (by decide +kernel)⟩
theorem yw_X4_isCounted : Cond.instanceMethod yX4_isCounted ∈ ps_T ∧ Cond.selects RX4 yX4_isCounted yX4_isCounted ∈ ps_T ∧ Cond.initialized RX4 ∈ ps_T ∧ Cond.code yX4_isCounted cX4_isCounted 1 (some .boolean) ∈ ps_T := ⟨ps_in 356 (by decide +kernel) (by decide +kernel), ps_in 357 (by decide +kernel) (by decide +kernel), ps_in 12 (by decide +kernel) (by decide +kernel), ps_in 358 (by decide +kernel) (by decide +kernel)⟩
theorem yw_X4_countAgrees : Cond.instanceMethod yX4_countAgrees ∈ ps_T ∧ Cond.selects RX4 yX4_countAgrees yX4_countAgrees ∈ ps_T ∧ Cond.initialized RX4 ∈ ps_T ∧ Cond.code yX4_countAgrees cX4_countAgrees 1 (some .boolean) ∈ ps_T := ⟨ps_in 360 (by decide +kernel) (by decide +kernel), ps_in 361 (by decide +kernel) (by decide +kernel), ps_in 12 (by decide +kernel) (by decide +kernel), ps_in 362 (by decide +kernel) (by decide +kernel)⟩
theorem yw_X5_init : Cond.instanceMethod yX5_init ∈ ps_T ∧ Cond.initialized RX5 ∈ ps_T ∧ Cond.code yX5_init cX5_init 1 none ∈ ps_T := ⟨ps_in 21 (by decide +kernel) (by decide +kernel), ps_in 10 (by decide +kernel) (by decide +kernel), ps_in 22 (by decide +kernel) (by decide +kernel)⟩
theorem yw_X5_addStation : Cond.instanceMethod yX5_addStation ∈ ps_T ∧ Cond.selects RX5 yX5_addStation yX5_addStation ∈ ps_T ∧ Cond.initialized RX5 ∈ ps_T ∧ Cond.code yX5_addStation cX5_addStation 1 (some .int) ∈ ps_T := ⟨ps_in 212 (by decide +kernel) (by decide +kernel), ps_in 213 (by decide +kernel) (by decide +kernel), ps_in 10 (by decide +kernel) (by decide +kernel), ps_in 214 (by decide +kernel) (by decide +kernel)⟩
theorem yw_X5_addClerk : Cond.instanceMethod yX5_addClerk ∈ ps_T ∧ Cond.selects RX5 yX5_addClerk yX5_addClerk ∈ ps_T ∧ Cond.initialized RX5 ∈ ps_T ∧ Cond.code yX5_addClerk cX5_addClerk 3 (some .int) ∈ ps_T := ⟨ps_in 239 (by decide +kernel) (by decide +kernel), ps_in 240 (by decide +kernel) (by decide +kernel), ps_in 10 (by decide +kernel) (by decide +kernel), ps_in 241 (by decide +kernel) (by decide +kernel)⟩
theorem yw_X5_setArrivals : Cond.instanceMethod yX5_setArrivals ∈ ps_T ∧ Cond.selects RX5 yX5_setArrivals yX5_setArrivals ∈ ps_T ∧ Cond.initialized RX5 ∈ ps_T ∧ Cond.code yX5_setArrivals cX5_setArrivals 6 (some .int) ∈ ps_T := ⟨ps_in 424 (by decide +kernel) (by decide +kernel), ps_in 425 (by decide +kernel) (by decide +kernel), ps_in 10 (by decide +kernel) (by decide +kernel), ps_in 426 (by decide +kernel) (by decide +kernel)⟩
theorem yw_X5_assign : Cond.instanceMethod yX5_assign ∈ ps_T ∧ Cond.selects RX5 yX5_assign yX5_assign ∈ ps_T ∧ Cond.initialized RX5 ∈ ps_T ∧ Cond.code yX5_assign cX5_assign 3 (some .int) ∈ ps_T := ⟨ps_in 428 (by decide +kernel) (by decide +kernel), ps_in 429 (by decide +kernel) (by decide +kernel), ps_in 10 (by decide +kernel) (by decide +kernel), ps_in 430 (by decide +kernel) (by decide +kernel)⟩
theorem yw_X5_relieve : Cond.instanceMethod yX5_relieve ∈ ps_T ∧ Cond.selects RX5 yX5_relieve yX5_relieve ∈ ps_T ∧ Cond.initialized RX5 ∈ ps_T ∧ Cond.code yX5_relieve cX5_relieve 3 (some .int) ∈ ps_T := ⟨ps_in 436 (by decide +kernel) (by decide +kernel), ps_in 437 (by decide +kernel) (by decide +kernel), ps_in 10 (by decide +kernel) (by decide +kernel), ps_in 438 (by decide +kernel) (by decide +kernel)⟩
theorem yw_X5_pass : Cond.instanceMethod yX5_pass ∈ ps_T ∧ Cond.selects RX5 yX5_pass yX5_pass ∈ ps_T ∧ Cond.initialized RX5 ∈ ps_T ∧ Cond.code yX5_pass cX5_pass 2 (some .int) ∈ ps_T := ⟨ps_in 445 (by decide +kernel) (by decide +kernel), ps_in 446 (by decide +kernel) (by decide +kernel), ps_in 10 (by decide +kernel) (by decide +kernel), ps_in 447 (by decide +kernel) (by decide +kernel)⟩
theorem yw_X5_supply : Cond.instanceMethod yX5_supply ∈ ps_T ∧ Cond.selects RX5 yX5_supply yX5_supply ∈ ps_T ∧ Cond.initialized RX5 ∈ ps_T ∧ Cond.code yX5_supply cX5_supply 4 (some .int) ∈ ps_T := ⟨ps_in 491 (by decide +kernel) (by decide +kernel), ps_in 492 (by decide +kernel) (by decide +kernel), ps_in 10 (by decide +kernel) (by decide +kernel), ps_in 493 (by decide +kernel) (by decide +kernel)⟩
theorem yw_X5_movePapers : Cond.instanceMethod yX5_movePapers ∈ ps_T ∧ Cond.selects RX5 yX5_movePapers yX5_movePapers ∈ ps_T ∧ Cond.initialized RX5 ∈ ps_T ∧ Cond.code yX5_movePapers cX5_movePapers 6 (some .int) ∈ ps_T := ⟨ps_in 498 (by decide +kernel) (by decide +kernel), ps_in 499 (by decide +kernel) (by decide +kernel), ps_in 10 (by decide +kernel) (by decide +kernel), ps_in 500 (by decide +kernel) (by decide +kernel)⟩
theorem yw_X5_spoil : Cond.instanceMethod yX5_spoil ∈ ps_T ∧ Cond.selects RX5 yX5_spoil yX5_spoil ∈ ps_T ∧ Cond.initialized RX5 ∈ ps_T ∧ Cond.code yX5_spoil cX5_spoil 4 (some .int) ∈ ps_T := ⟨ps_in 502 (by decide +kernel) (by decide +kernel), ps_in 503 (by decide +kernel) (by decide +kernel), ps_in 10 (by decide +kernel) (by decide +kernel), ps_in 504 (by decide +kernel) (by decide +kernel)⟩
theorem yw_X5_carryOff : Cond.instanceMethod yX5_carryOff ∈ ps_T ∧ Cond.selects RX5 yX5_carryOff yX5_carryOff ∈ ps_T ∧ Cond.initialized RX5 ∈ ps_T ∧ Cond.code yX5_carryOff cX5_carryOff 4 (some .int) ∈ ps_T := ⟨ps_in 506 (by decide +kernel) (by decide +kernel), ps_in 507 (by decide +kernel) (by decide +kernel), ps_in 10 (by decide +kernel) (by decide +kernel), ps_in 508 (by decide +kernel) (by decide +kernel)⟩
theorem yw_X5_find : Cond.instanceMethod yX5_find ∈ ps_T ∧ Cond.selects RX5 yX5_find yX5_find ∈ ps_T ∧ Cond.initialized RX5 ∈ ps_T ∧ Cond.code yX5_find cX5_find 4 (some .int) ∈ ps_T := ⟨ps_in 510 (by decide +kernel) (by decide +kernel), ps_in 511 (by decide +kernel) (by decide +kernel), ps_in 10 (by decide +kernel) (by decide +kernel), ps_in 512 (by decide +kernel) (by decide +kernel)⟩
theorem yw_X5_countBox : Cond.instanceMethod yX5_countBox ∈ ps_T ∧ Cond.selects RX5 yX5_countBox yX5_countBox ∈ ps_T ∧ Cond.initialized RX5 ∈ ps_T ∧ Cond.code yX5_countBox cX5_countBox 4 (some .int) ∈ ps_T := ⟨ps_in 514 (by decide +kernel) (by decide +kernel), ps_in 515 (by decide +kernel) (by decide +kernel), ps_in 10 (by decide +kernel) (by decide +kernel), ps_in 516 (by decide +kernel) (by decide +kernel)⟩
theorem yw_X5_readArrivals : Cond.instanceMethod yX5_readArrivals ∈ ps_T ∧ Cond.selects RX5 yX5_readArrivals yX5_readArrivals ∈ ps_T ∧ Cond.initialized RX5 ∈ ps_T ∧ Cond.code yX5_readArrivals cX5_readArrivals 5 (some .int) ∈ ps_T := ⟨ps_in 250 (by decide +kernel) (by decide +kernel), ps_in 251 (by decide +kernel) (by decide +kernel), ps_in 10 (by decide +kernel) (by decide +kernel), ps_in 252 (by decide +kernel) (by decide +kernel)⟩
theorem yw_X5_undo : Cond.instanceMethod yX5_undo ∈ ps_T ∧ Cond.selects RX5 yX5_undo yX5_undo ∈ ps_T ∧ Cond.initialized RX5 ∈ ps_T ∧ Cond.code yX5_undo cX5_undo 1 (some .int) ∈ ps_T := ⟨ps_in 281 (by decide +kernel) (by decide +kernel), ps_in 282 (by decide +kernel) (by decide +kernel), ps_in 10 (by decide +kernel) (by decide +kernel), ps_in 283 (by decide +kernel) (by decide +kernel)⟩
theorem yw_X5_keep : Cond.instanceMethod yX5_keep ∈ ps_T ∧ Cond.selects RX5 yX5_keep yX5_keep ∈ ps_T ∧ Cond.initialized RX5 ∈ ps_T ∧ Cond.code yX5_keep cX5_keep 1 (some .int) ∈ ps_T := ⟨ps_in 289 (by decide +kernel) (by decide +kernel), ps_in 290 (by decide +kernel) (by decide +kernel), ps_in 10 (by decide +kernel) (by decide +kernel), ps_in 291 (by decide +kernel) (by decide +kernel)⟩
theorem yw_X5_restore : Cond.instanceMethod yX5_restore ∈ ps_T ∧ Cond.selects RX5 yX5_restore yX5_restore ∈ ps_T ∧ Cond.initialized RX5 ∈ ps_T ∧ Cond.code yX5_restore cX5_restore 1 (some .int) ∈ ps_T := ⟨ps_in 294 (by decide +kernel) (by decide +kernel), ps_in 295 (by decide +kernel) (by decide +kernel), ps_in 10 (by decide +kernel) (by decide +kernel), ps_in 296 (by decide +kernel) (by decide +kernel)⟩
theorem yw_X5_station : Cond.instanceMethod yX5_station ∈ ps_T ∧ Cond.selects RX5 yX5_station yX5_station ∈ ps_T ∧ Cond.initialized RX5 ∈ ps_T ∧ Cond.code yX5_station cX5_station 4 (some .int) ∈ ps_T := ⟨ps_in 381 (by decide +kernel) (by decide +kernel), ps_in 382 (by decide +kernel) (by decide +kernel), ps_in 10 (by decide +kernel) (by decide +kernel), ps_in 383 (by decide +kernel) (by decide +kernel)⟩
theorem yw_X5_papers : Cond.instanceMethod yX5_papers ∈ ps_T ∧ Cond.selects RX5 yX5_papers yX5_papers ∈ ps_T ∧ Cond.initialized RX5 ∈ ps_T ∧ Cond.code yX5_papers cX5_papers 4 (some .int) ∈ ps_T := ⟨ps_in 402 (by decide +kernel) (by decide +kernel), ps_in 403 (by decide +kernel) (by decide +kernel), ps_in 10 (by decide +kernel) (by decide +kernel), ps_in 404 (by decide +kernel) (by decide +kernel)⟩
theorem yw_X5_clerk : Cond.instanceMethod yX5_clerk ∈ ps_T ∧ Cond.selects RX5 yX5_clerk yX5_clerk ∈ ps_T ∧ Cond.initialized RX5 ∈ ps_T ∧ Cond.code yX5_clerk cX5_clerk 4 (some .int) ∈ ps_T := ⟨ps_in 412 (by decide +kernel) (by decide +kernel), ps_in 413 (by decide +kernel) (by decide +kernel), ps_in 10 (by decide +kernel) (by decide +kernel), ps_in 414 (by decide +kernel) (by decide +kernel)⟩
theorem yw_X5_arrivals : Cond.instanceMethod yX5_arrivals ∈ ps_T ∧ Cond.selects RX5 yX5_arrivals yX5_arrivals ∈ ps_T ∧ Cond.initialized RX5 ∈ ps_T ∧ Cond.code yX5_arrivals cX5_arrivals 3 (some .int) ∈ ps_T := ⟨ps_in 408 (by decide +kernel) (by decide +kernel), ps_in 409 (by decide +kernel) (by decide +kernel), ps_in 10 (by decide +kernel) (by decide +kernel), ps_in 410 (by decide +kernel) (by decide +kernel)⟩
theorem yw_X5_free : Cond.instanceMethod yX5_free ∈ ps_T ∧ Cond.selects RX5 yX5_free yX5_free ∈ ps_T ∧ Cond.initialized RX5 ∈ ps_T ∧ Cond.code yX5_free cX5_free 3 (some .int) ∈ ps_T := ⟨ps_in 298 (by decide +kernel) (by decide +kernel), ps_in 299 (by decide +kernel) (by decide +kernel), ps_in 10 (by decide +kernel) (by decide +kernel), ps_in 300 (by decide +kernel) (by decide +kernel)⟩
theorem yw_X5_busiest : Cond.instanceMethod yX5_busiest ∈ ps_T ∧ Cond.selects RX5 yX5_busiest yX5_busiest ∈ ps_T ∧ Cond.initialized RX5 ∈ ps_T ∧ Cond.code yX5_busiest cX5_busiest 3 (some .int) ∈ ps_T := ⟨ps_in 323 (by decide +kernel) (by decide +kernel), ps_in 324 (by decide +kernel) (by decide +kernel), ps_in 10 (by decide +kernel) (by decide +kernel), ps_in 325 (by decide +kernel) (by decide +kernel)⟩
theorem yw_X5_queueIn : Cond.instanceMethod yX5_queueIn ∈ ps_T ∧ Cond.selects RX5 yX5_queueIn yX5_queueIn ∈ ps_T ∧ Cond.initialized RX5 ∈ ps_T ∧ Cond.code yX5_queueIn cX5_queueIn 3 (some .int) ∈ ps_T := ⟨ps_in 519 (by decide +kernel) (by decide +kernel), ps_in 520 (by decide +kernel) (by decide +kernel), ps_in 10 (by decide +kernel) (by decide +kernel), ps_in 521 (by decide +kernel) (by decide +kernel)⟩
theorem yw_X5_lacks : Cond.instanceMethod yX5_lacks ∈ ps_T ∧ Cond.selects RX5 yX5_lacks yX5_lacks ∈ ps_T ∧ Cond.initialized RX5 ∈ ps_T ∧ Cond.code yX5_lacks cX5_lacks 4 (some .int) ∈ ps_T := ⟨ps_in 523 (by decide +kernel) (by decide +kernel), ps_in 524 (by decide +kernel) (by decide +kernel), ps_in 10 (by decide +kernel) (by decide +kernel), ps_in 525 (by decide +kernel) (by decide +kernel)⟩
theorem yw_X5_count : Cond.instanceMethod yX5_count ∈ ps_T ∧ Cond.selects RX5 yX5_count yX5_count ∈ ps_T ∧ Cond.initialized RX5 ∈ ps_T ∧ Cond.code yX5_count cX5_count 2 (some .int) ∈ ps_T := ⟨ps_in 331 (by decide +kernel) (by decide +kernel), ps_in 332 (by decide +kernel) (by decide +kernel), ps_in 10 (by decide +kernel) (by decide +kernel), ps_in 333 (by decide +kernel) (by decide +kernel)⟩
theorem yw_X5_total : Cond.instanceMethod yX5_total ∈ ps_T ∧ Cond.selects RX5 yX5_total yX5_total ∈ ps_T ∧ Cond.initialized RX5 ∈ ps_T ∧ Cond.code yX5_total cX5_total 1 (some (.object "PaperStations$Station")) ∈ ps_T := ⟨ps_in 345 (by decide +kernel) (by decide +kernel), ps_in 3 (by decide +kernel) (by decide +kernel), ps_in 10 (by decide +kernel) (by decide +kernel), ps_in 346 (by decide +kernel) (by decide +kernel)⟩
theorem yw_X5_isHourToCome : Cond.instanceMethod yX5_isHourToCome ∈ ps_T ∧ Cond.selects RX5 yX5_isHourToCome yX5_isHourToCome ∈ ps_T ∧ Cond.initialized RX5 ∈ ps_T ∧ Cond.code yX5_isHourToCome cX5_isHourToCome 2 (some .boolean) ∈ ps_T := ⟨ps_in 259 (by decide +kernel) (by decide +kernel), ps_in 1 (by decide +kernel) (by decide +kernel), ps_in 10 (by decide +kernel) (by decide +kernel), ps_in 260 (by decide +kernel) (by decide +kernel)⟩
theorem yw_X5_isPaperNumber : Cond.static yX5_isPaperNumber ∈ ps_T ∧ Cond.initialized RX5 ∈ ps_T ∧ Cond.code yX5_isPaperNumber cX5_isPaperNumber 1 (some .boolean) ∈ ps_T := ⟨ps_in 495 (by decide +kernel) (by decide +kernel), ps_in 10 (by decide +kernel) (by decide +kernel), ps_in 496 (by decide +kernel) (by decide +kernel)⟩
theorem yw_X5_isWithin : Cond.static yX5_isWithin ∈ ps_T ∧ Cond.initialized RX5 ∈ ps_T ∧ Cond.code yX5_isWithin cX5_isWithin 3 (some .boolean) ∈ ps_T := ⟨ps_in 243 (by decide +kernel) (by decide +kernel), ps_in 10 (by decide +kernel) (by decide +kernel), ps_in 244 (by decide +kernel) (by decide +kernel)⟩
set_option maxRecDepth 100000 in
theorem yw_L_cell : Cond.static yL_cell ∈ ps_T ∧ Cond.initialized RL ∈ ps_T ∧ Cond.code yL_cell cL_cell 2 (some .int) ∈ ps_T := ⟨ps_in 368 (by decide +kernel) (by decide +kernel), ps_in 9 (by decide +kernel) (by decide +kernel), ps_in 369 rfl (by decide +kernel)⟩
set_option maxRecDepth 100000 in
theorem yw_L_up : Cond.static yL_up ∈ ps_T ∧ Cond.initialized RL ∈ ps_T ∧ Cond.code yL_up cL_up 2 (some .int) ∈ ps_T := ⟨ps_in 372 (by decide +kernel) (by decide +kernel), ps_in 9 (by decide +kernel) (by decide +kernel), ps_in 373 rfl (by decide +kernel)⟩
set_option maxRecDepth 100000 in
theorem yw_L_mark : Cond.static yL_mark ∈ ps_T ∧ Cond.initialized RL ∈ ps_T ∧ Cond.code yL_mark cL_mark 5 (some .long) ∈ ps_T := ⟨ps_in 376 (by decide +kernel) (by decide +kernel), ps_in 9 (by decide +kernel) (by decide +kernel), ps_in 377 rfl (by decide +kernel)⟩
set_option maxRecDepth 100000 in
theorem yw_L_fails : Cond.static yL_fails ∈ ps_T ∧ Cond.initialized RL ∈ ps_T ∧ Cond.code yL_fails cL_fails 8 (some .boolean) ∈ ps_T := ⟨ps_in 421 (by decide +kernel) (by decide +kernel), ps_in 9 (by decide +kernel) (by decide +kernel), ps_in 422 rfl (by decide +kernel)⟩
set_option maxRecDepth 100000 in
theorem yw_L_stations : Cond.static yL_stations ∈ ps_T ∧ Cond.initialized RL ∈ ps_T ∧ Cond.code yL_stations cL_stations 19 (some .boolean) ∈ ps_T := ⟨ps_in 529 (by decide +kernel) (by decide +kernel), ps_in 9 (by decide +kernel) (by decide +kernel), ps_in 530 rfl (by decide +kernel)⟩
set_option maxRecDepth 100000 in
theorem yw_L_clerks : Cond.static yL_clerks ∈ ps_T ∧ Cond.initialized RL ∈ ps_T ∧ Cond.code yL_clerks cL_clerks 9 (some .boolean) ∈ ps_T := ⟨ps_in 533 (by decide +kernel) (by decide +kernel), ps_in 9 (by decide +kernel) (by decide +kernel), ps_in 534 rfl (by decide +kernel)⟩
set_option maxRecDepth 100000 in
theorem yw_L_lacks : Cond.static yL_lacks ∈ ps_T ∧ Cond.initialized RL ∈ ps_T ∧ Cond.code yL_lacks cL_lacks 6 (some .boolean) ∈ ps_T := ⟨ps_in 536 (by decide +kernel) (by decide +kernel), ps_in 9 (by decide +kernel) (by decide +kernel), ps_in 537 rfl (by decide +kernel)⟩
set_option maxRecDepth 100000 in
theorem yw_L_passes : Cond.static yL_passes ∈ ps_T ∧ Cond.initialized RL ∈ ps_T ∧ Cond.code yL_passes cL_passes 9 (some .boolean) ∈ ps_T := ⟨ps_in 539 (by decide +kernel) (by decide +kernel), ps_in 9 (by decide +kernel) (by decide +kernel), ps_in 540 rfl (by decide +kernel)⟩
set_option maxRecDepth 100000 in
theorem yw_L_act : Cond.static yL_act ∈ ps_T ∧ Cond.initialized RL ∈ ps_T ∧ Cond.code yL_act cL_act 9 (some .int) ∈ ps_T := ⟨ps_in 542 (by decide +kernel) (by decide +kernel), ps_in 9 (by decide +kernel) (by decide +kernel), ps_in 543 rfl (by decide +kernel)⟩
theorem lkj_max : Cond.static Lib.Math.max.name ∈ ps_T := ps_in 277 (by decide +kernel) (by decide +kernel)
theorem lkj_min : Cond.static Lib.Math.min.name ∈ ps_T := ps_in 479 (by decide +kernel) (by decide +kernel)
theorem lkj_math : Cond.initialized "java/lang/Math" ∈ ps_T := ps_in 17 (by decide +kernel) (by decide +kernel)
theorem lkj_sys : Cond.initialized "java/lang/System" ∈ ps_T := ps_in 16 (by decide +kernel) (by decide +kernel)
theorem lkj_cps : Cond.static arraycopyName ∈ ps_T := ps_in 232 (by decide +kernel) (by decide +kernel)
theorem lkj_cpn : Cond.native arraycopyName ∈ ps_T := ps_in 233 (by decide +kernel) (by decide +kernel)
theorem lkj_oi : Cond.instanceMethod objectInit ∈ ps_T := ps_in 24 (by decide +kernel) (by decide +kernel)
theorem lkj_ai : Cond.arrayClass .int ∈ ps_T := ps_in 94 (by decide +kernel) (by decide +kernel)
theorem lkj_ac : Cond.arrayClass .char ∈ ps_T := ps_in 188 (by decide +kernel) (by decide +kernel)
theorem lkj_maxc : Cond.code Lib.Math.max.name Lib.Math.max.code 2 (some .int) ∈ ps_T := ps_in 278 (by decide +kernel) (by decide +kernel)
theorem lkj_minc : Cond.code Lib.Math.min.name Lib.Math.min.code 2 (some .int) ∈ ps_T := ps_in 480 (by decide +kernel) (by decide +kernel)
theorem lkj_oic : Cond.code objectInit ⟨#[0xb1]⟩ 1 none ∈ ps_T := ps_in 25 (by decide +kernel) (by decide +kernel)
theorem lki_X5 : Cond.initialized RX5 ∈ ps_T := ps_in 10 (by decide +kernel) (by decide +kernel)
theorem lki_X2 : Cond.initialized RX2 ∈ ps_T := ps_in 11 (by decide +kernel) (by decide +kernel)
theorem lki_X4 : Cond.initialized RX4 ∈ ps_T := ps_in 12 (by decide +kernel) (by decide +kernel)
theorem lki_X1 : Cond.initialized RX1 ∈ ps_T := ps_in 13 (by decide +kernel) (by decide +kernel)
theorem lki_X3 : Cond.initialized RX3 ∈ ps_T := ps_in 14 (by decide +kernel) (by decide +kernel)
theorem lki_X0 : Cond.initialized RX0 ∈ ps_T := ps_in 15 (by decide +kernel) (by decide +kernel)
theorem lkn_X5 : Cond.instantiable RX5 7 ∈ ps_T := ps_in 19 (by decide +kernel) (by decide +kernel)
theorem lkn_X2 : Cond.instantiable RX2 5 ∈ ps_T := ps_in 27 (by decide +kernel) (by decide +kernel)
theorem lkn_X4 : Cond.instantiable RX4 13 ∈ ps_T := ps_in 34 (by decide +kernel) (by decide +kernel)
theorem lkn_X1 : Cond.instantiable RX1 6 ∈ ps_T := ps_in 97 (by decide +kernel) (by decide +kernel)
theorem lkn_X3 : Cond.instantiable RX3 2 ∈ ps_T := ps_in 154 (by decide +kernel) (by decide +kernel)
theorem lkn_X0 : Cond.instantiable RX0 3 ∈ ps_T := ps_in 171 (by decide +kernel) (by decide +kernel)
