section
-- ===== PART A: goes FIRST, ahead of the names: the tables' words, and 'selects' of the private methods out of them =====
/-- a private method of a class that the tables say can be made, by its rows of tables_1 -/
def lw_okq (q : MethodName × Nat) : Prop := (q.1.cls ≠ "java/lang/invoke/MethodHandle" ∧ q.1.cls ≠ "java/lang/invoke/VarHandle") ∧ Cond.instantiable q.1.cls q.2 ∈ tables_1 ∧ Cond.privateMethod q.1 ∈ tables_1 ∧ Cond.instanceMethod q.1 ∈ tables_1
theorem lw_p0 : lw_okq (⟨"PaperStations$History", "dropOldest", "()V"⟩, 2) := ⟨⟨by decide +kernel, by decide +kernel⟩, List.mem_of_getElem? (i := 146) (by decide +kernel), List.mem_of_getElem? (i := 213) (by decide +kernel), List.mem_of_getElem? (i := 214) (by decide +kernel)⟩
theorem lw_p1 : lw_okq (⟨"PaperStations", "isHourToCome", "(I)Z"⟩, 7) := ⟨⟨by decide +kernel, by decide +kernel⟩, List.mem_of_getElem? (i := 11) (by decide +kernel), List.mem_of_getElem? (i := 251) (by decide +kernel), List.mem_of_getElem? (i := 252) (by decide +kernel)⟩
theorem lw_p2 : lw_okq (⟨"PaperStations$Day", "letArrive", "()V"⟩, 5) := ⟨⟨by decide +kernel, by decide +kernel⟩, List.mem_of_getElem? (i := 19) (by decide +kernel), List.mem_of_getElem? (i := 300) (by decide +kernel), List.mem_of_getElem? (i := 301) (by decide +kernel)⟩
theorem lw_p3 : lw_okq (⟨"PaperStations$Day", "changeClerks", "()V"⟩, 5) := ⟨⟨by decide +kernel, by decide +kernel⟩, List.mem_of_getElem? (i := 19) (by decide +kernel), List.mem_of_getElem? (i := 304) (by decide +kernel), List.mem_of_getElem? (i := 305) (by decide +kernel)⟩
theorem lw_p4 : lw_okq (⟨"PaperStations$Day", "firstFree", "()I"⟩, 5) := ⟨⟨by decide +kernel, by decide +kernel⟩, List.mem_of_getElem? (i := 19) (by decide +kernel), List.mem_of_getElem? (i := 313) (by decide +kernel), List.mem_of_getElem? (i := 314) (by decide +kernel)⟩
theorem lw_p5 : lw_okq (⟨"PaperStations$Day", "comesBefore", "(II)Z"⟩, 5) := ⟨⟨by decide +kernel, by decide +kernel⟩, List.mem_of_getElem? (i := 19) (by decide +kernel), List.mem_of_getElem? (i := 318) (by decide +kernel), List.mem_of_getElem? (i := 319) (by decide +kernel)⟩
theorem lw_p6 : lw_okq (⟨"PaperStations$Day", "serveQueues", "()I"⟩, 5) := ⟨⟨by decide +kernel, by decide +kernel⟩, List.mem_of_getElem? (i := 19) (by decide +kernel), List.mem_of_getElem? (i := 323) (by decide +kernel), List.mem_of_getElem? (i := 324) (by decide +kernel)⟩
theorem lw_p7 : lw_okq (⟨"PaperStations$Day", "endHourOfClerks", "()V"⟩, 5) := ⟨⟨by decide +kernel, by decide +kernel⟩, List.mem_of_getElem? (i := 19) (by decide +kernel), List.mem_of_getElem? (i := 341) (by decide +kernel), List.mem_of_getElem? (i := 342) (by decide +kernel)⟩
theorem lw_p8 : lw_okq (⟨"PaperStations", "total", "()LPaperStations$Station;"⟩, 7) := ⟨⟨by decide +kernel, by decide +kernel⟩, List.mem_of_getElem? (i := 11) (by decide +kernel), List.mem_of_getElem? (i := 492) (by decide +kernel), List.mem_of_getElem? (i := 493) (by decide +kernel)⟩
theorem lw_p9 : lw_okq (⟨"PaperStationsModel", "records", "()V"⟩, 10) := ⟨⟨by decide +kernel, by decide +kernel⟩, List.mem_of_getElem? (i := 513) (by decide +kernel), List.mem_of_getElem? (i := 554) (by decide +kernel), List.mem_of_getElem? (i := 555) (by decide +kernel)⟩
theorem lw_p10 : lw_okq (⟨"PaperStationsModel", "adds", "(III)V"⟩, 10) := ⟨⟨by decide +kernel, by decide +kernel⟩, List.mem_of_getElem? (i := 513) (by decide +kernel), List.mem_of_getElem? (i := 561) (by decide +kernel), List.mem_of_getElem? (i := 562) (by decide +kernel)⟩
theorem lw_p11 : lw_okq (⟨"PaperStationsModel", "laysClerk", "(III)V"⟩, 10) := ⟨⟨by decide +kernel, by decide +kernel⟩, List.mem_of_getElem? (i := 513) (by decide +kernel), List.mem_of_getElem? (i := 572) (by decide +kernel), List.mem_of_getElem? (i := 573) (by decide +kernel)⟩
theorem lw_p12 : lw_okq (⟨"PaperStationsModel", "isStation", "(I)Z"⟩, 10) := ⟨⟨by decide +kernel, by decide +kernel⟩, List.mem_of_getElem? (i := 513) (by decide +kernel), List.mem_of_getElem? (i := 580) (by decide +kernel), List.mem_of_getElem? (i := 581) (by decide +kernel)⟩
theorem lw_p13 : lw_okq (⟨"PaperStationsModel", "of", "(II)I"⟩, 10) := ⟨⟨by decide +kernel, by decide +kernel⟩, List.mem_of_getElem? (i := 513) (by decide +kernel), List.mem_of_getElem? (i := 584) (by decide +kernel), List.mem_of_getElem? (i := 585) (by decide +kernel)⟩
theorem lw_p14 : lw_okq (⟨"PaperStationsModel", "isClerk", "(I)Z"⟩, 10) := ⟨⟨by decide +kernel, by decide +kernel⟩, List.mem_of_getElem? (i := 513) (by decide +kernel), List.mem_of_getElem? (i := 592) (by decide +kernel), List.mem_of_getElem? (i := 593) (by decide +kernel)⟩
theorem lw_p15 : lw_okq (⟨"PaperStationsModel", "isFree", "(I)Z"⟩, 10) := ⟨⟨by decide +kernel, by decide +kernel⟩, List.mem_of_getElem? (i := 513) (by decide +kernel), List.mem_of_getElem? (i := 596) (by decide +kernel), List.mem_of_getElem? (i := 597) (by decide +kernel)⟩
def lw_privs_1 : List (MethodName × Nat) := [(⟨"PaperStations$History", "dropOldest", "()V"⟩, 2), (⟨"PaperStations", "isHourToCome", "(I)Z"⟩, 7), (⟨"PaperStations$Day", "letArrive", "()V"⟩, 5), (⟨"PaperStations$Day", "changeClerks", "()V"⟩, 5), (⟨"PaperStations$Day", "firstFree", "()I"⟩, 5), (⟨"PaperStations$Day", "comesBefore", "(II)Z"⟩, 5), (⟨"PaperStations$Day", "serveQueues", "()I"⟩, 5), (⟨"PaperStations$Day", "endHourOfClerks", "()V"⟩, 5), (⟨"PaperStations", "total", "()LPaperStations$Station;"⟩, 7), (⟨"PaperStationsModel", "records", "()V"⟩, 10), (⟨"PaperStationsModel", "adds", "(III)V"⟩, 10), (⟨"PaperStationsModel", "laysClerk", "(III)V"⟩, 10), (⟨"PaperStationsModel", "isStation", "(I)Z"⟩, 10), (⟨"PaperStationsModel", "of", "(II)I"⟩, 10), (⟨"PaperStationsModel", "isClerk", "(I)Z"⟩, 10), (⟨"PaperStationsModel", "isFree", "(I)Z"⟩, 10)]
theorem lw_r1 : ∀ q ∈ lw_privs_1, lw_okq q := List.forall_mem_cons.mpr ⟨lw_p0, List.forall_mem_cons.mpr ⟨lw_p1, List.forall_mem_cons.mpr ⟨lw_p2, List.forall_mem_cons.mpr ⟨lw_p3, List.forall_mem_cons.mpr ⟨lw_p4, List.forall_mem_cons.mpr ⟨lw_p5, List.forall_mem_cons.mpr ⟨lw_p6, List.forall_mem_cons.mpr ⟨lw_p7, List.forall_mem_cons.mpr ⟨lw_p8, List.forall_mem_cons.mpr ⟨lw_p9, List.forall_mem_cons.mpr ⟨lw_p10, List.forall_mem_cons.mpr ⟨lw_p11, List.forall_mem_cons.mpr ⟨lw_p12, List.forall_mem_cons.mpr ⟨lw_p13, List.forall_mem_cons.mpr ⟨lw_p14, List.forall_mem_cons.mpr ⟨lw_p15, fun _ h => absurd h List.not_mem_nil⟩⟩⟩⟩⟩⟩⟩⟩⟩⟩⟩⟩⟩⟩⟩⟩
theorem lw_p16 : lw_okq (⟨"PaperStationsModel", "ofClerk", "(II)I"⟩, 10) := ⟨⟨by decide +kernel, by decide +kernel⟩, List.mem_of_getElem? (i := 513) (by decide +kernel), List.mem_of_getElem? (i := 600) (by decide +kernel), List.mem_of_getElem? (i := 601) (by decide +kernel)⟩
theorem lw_p17 : lw_okq (⟨"PaperStationsModel", "onDutyAt", "(I)I"⟩, 10) := ⟨⟨by decide +kernel, by decide +kernel⟩, List.mem_of_getElem? (i := 513) (by decide +kernel), List.mem_of_getElem? (i := 604) (by decide +kernel), List.mem_of_getElem? (i := 605) (by decide +kernel)⟩
theorem lw_p18 : lw_okq (⟨"PaperStationsModel", "leaves", "(II)V"⟩, 10) := ⟨⟨by decide +kernel, by decide +kernel⟩, List.mem_of_getElem? (i := 513) (by decide +kernel), List.mem_of_getElem? (i := 612) (by decide +kernel), List.mem_of_getElem? (i := 613) (by decide +kernel)⟩
theorem lw_p19 : lw_okq (⟨"PaperStationsModel", "hoursPass", "(I)I"⟩, 10) := ⟨⟨by decide +kernel, by decide +kernel⟩, List.mem_of_getElem? (i := 513) (by decide +kernel), List.mem_of_getElem? (i := 620) (by decide +kernel), List.mem_of_getElem? (i := 621) (by decide +kernel)⟩
theorem lw_p20 : lw_okq (⟨"PaperStationsModel", "hourPasses", "()I"⟩, 10) := ⟨⟨by decide +kernel, by decide +kernel⟩, List.mem_of_getElem? (i := 513) (by decide +kernel), List.mem_of_getElem? (i := 624) (by decide +kernel), List.mem_of_getElem? (i := 625) (by decide +kernel)⟩
theorem lw_p21 : lw_okq (⟨"PaperStationsModel", "takesTurns", "()V"⟩, 10) := ⟨⟨by decide +kernel, by decide +kernel⟩, List.mem_of_getElem? (i := 513) (by decide +kernel), List.mem_of_getElem? (i := 628) (by decide +kernel), List.mem_of_getElem? (i := 629) (by decide +kernel)⟩
theorem lw_p22 : lw_okq (⟨"PaperStationsModel", "freeAt", "(I)I"⟩, 10) := ⟨⟨by decide +kernel, by decide +kernel⟩, List.mem_of_getElem? (i := 513) (by decide +kernel), List.mem_of_getElem? (i := 632) (by decide +kernel), List.mem_of_getElem? (i := 633) (by decide +kernel)⟩
theorem lw_p23 : lw_okq (⟨"PaperStationsModel", "aheadOf", "(I)I"⟩, 10) := ⟨⟨by decide +kernel, by decide +kernel⟩, List.mem_of_getElem? (i := 513) (by decide +kernel), List.mem_of_getElem? (i := 636) (by decide +kernel), List.mem_of_getElem? (i := 637) (by decide +kernel)⟩
theorem lw_p24 : lw_okq (⟨"PaperStationsModel", "serves", "(I)I"⟩, 10) := ⟨⟨by decide +kernel, by decide +kernel⟩, List.mem_of_getElem? (i := 513) (by decide +kernel), List.mem_of_getElem? (i := 640) (by decide +kernel), List.mem_of_getElem? (i := 641) (by decide +kernel)⟩
theorem lw_p25 : lw_okq (⟨"PaperStationsModel", "serveAt", "(I)I"⟩, 10) := ⟨⟨by decide +kernel, by decide +kernel⟩, List.mem_of_getElem? (i := 513) (by decide +kernel), List.mem_of_getElem? (i := 644) (by decide +kernel), List.mem_of_getElem? (i := 645) (by decide +kernel)⟩
theorem lw_p26 : lw_okq (⟨"PaperStationsModel", "faultOf", "()I"⟩, 10) := ⟨⟨by decide +kernel, by decide +kernel⟩, List.mem_of_getElem? (i := 513) (by decide +kernel), List.mem_of_getElem? (i := 685) (by decide +kernel), List.mem_of_getElem? (i := 686) (by decide +kernel)⟩
theorem lw_p27 : lw_okq (⟨"PaperStationsModel", "signAt", "(I)I"⟩, 10) := ⟨⟨by decide +kernel, by decide +kernel⟩, List.mem_of_getElem? (i := 513) (by decide +kernel), List.mem_of_getElem? (i := 689) (by decide +kernel), List.mem_of_getElem? (i := 690) (by decide +kernel)⟩
theorem lw_p28 : lw_okq (⟨"PaperStationsModel", "arrivalsAll", "(I)I"⟩, 10) := ⟨⟨by decide +kernel, by decide +kernel⟩, List.mem_of_getElem? (i := 513) (by decide +kernel), List.mem_of_getElem? (i := 709) (by decide +kernel), List.mem_of_getElem? (i := 710) (by decide +kernel)⟩
theorem lw_p29 : lw_okq (⟨"PaperStationsModel", "toServe", "(I)I"⟩, 10) := ⟨⟨by decide +kernel, by decide +kernel⟩, List.mem_of_getElem? (i := 513) (by decide +kernel), List.mem_of_getElem? (i := 713) (by decide +kernel), List.mem_of_getElem? (i := 714) (by decide +kernel)⟩
theorem lw_p30 : lw_okq (⟨"PaperStationsModel", "overClerks", "(I)I"⟩, 10) := ⟨⟨by decide +kernel, by decide +kernel⟩, List.mem_of_getElem? (i := 513) (by decide +kernel), List.mem_of_getElem? (i := 751) (by decide +kernel), List.mem_of_getElem? (i := 752) (by decide +kernel)⟩
theorem lw_p31 : lw_okq (⟨"PaperStationsModel", "overStations", "(I)I"⟩, 10) := ⟨⟨by decide +kernel, by decide +kernel⟩, List.mem_of_getElem? (i := 513) (by decide +kernel), List.mem_of_getElem? (i := 755) (by decide +kernel), List.mem_of_getElem? (i := 756) (by decide +kernel)⟩
def lw_privs_2 : List (MethodName × Nat) := [(⟨"PaperStationsModel", "ofClerk", "(II)I"⟩, 10), (⟨"PaperStationsModel", "onDutyAt", "(I)I"⟩, 10), (⟨"PaperStationsModel", "leaves", "(II)V"⟩, 10), (⟨"PaperStationsModel", "hoursPass", "(I)I"⟩, 10), (⟨"PaperStationsModel", "hourPasses", "()I"⟩, 10), (⟨"PaperStationsModel", "takesTurns", "()V"⟩, 10), (⟨"PaperStationsModel", "freeAt", "(I)I"⟩, 10), (⟨"PaperStationsModel", "aheadOf", "(I)I"⟩, 10), (⟨"PaperStationsModel", "serves", "(I)I"⟩, 10), (⟨"PaperStationsModel", "serveAt", "(I)I"⟩, 10), (⟨"PaperStationsModel", "faultOf", "()I"⟩, 10), (⟨"PaperStationsModel", "signAt", "(I)I"⟩, 10), (⟨"PaperStationsModel", "arrivalsAll", "(I)I"⟩, 10), (⟨"PaperStationsModel", "toServe", "(I)I"⟩, 10), (⟨"PaperStationsModel", "overClerks", "(I)I"⟩, 10), (⟨"PaperStationsModel", "overStations", "(I)I"⟩, 10)]
theorem lw_r2 : ∀ q ∈ lw_privs_2, lw_okq q := List.forall_mem_cons.mpr ⟨lw_p16, List.forall_mem_cons.mpr ⟨lw_p17, List.forall_mem_cons.mpr ⟨lw_p18, List.forall_mem_cons.mpr ⟨lw_p19, List.forall_mem_cons.mpr ⟨lw_p20, List.forall_mem_cons.mpr ⟨lw_p21, List.forall_mem_cons.mpr ⟨lw_p22, List.forall_mem_cons.mpr ⟨lw_p23, List.forall_mem_cons.mpr ⟨lw_p24, List.forall_mem_cons.mpr ⟨lw_p25, List.forall_mem_cons.mpr ⟨lw_p26, List.forall_mem_cons.mpr ⟨lw_p27, List.forall_mem_cons.mpr ⟨lw_p28, List.forall_mem_cons.mpr ⟨lw_p29, List.forall_mem_cons.mpr ⟨lw_p30, List.forall_mem_cons.mpr ⟨lw_p31, fun _ h => absurd h List.not_mem_nil⟩⟩⟩⟩⟩⟩⟩⟩⟩⟩⟩⟩⟩⟩⟩⟩
theorem lw_p32 : lw_okq (⟨"PaperStationsModel", "countedAs", "(Z)I"⟩, 10) := ⟨⟨by decide +kernel, by decide +kernel⟩, List.mem_of_getElem? (i := 513) (by decide +kernel), List.mem_of_getElem? (i := 759) (by decide +kernel), List.mem_of_getElem? (i := 760) (by decide +kernel)⟩
def lw_privs_3 : List (MethodName × Nat) := [(⟨"PaperStationsModel", "countedAs", "(Z)I"⟩, 10)]
theorem lw_r3 : ∀ q ∈ lw_privs_3, lw_okq q := List.forall_mem_cons.mpr ⟨lw_p32, fun _ h => absurd h List.not_mem_nil⟩
def lw_privs : List (MethodName × Nat) := lw_privs_1 ++ (lw_privs_2 ++ (lw_privs_3))
def lw_tbl : List Cond := k2_sels lw_privs ++ tables_1
theorem lw_privs_ok : ∀ q ∈ lw_privs, lw_okq q := by
  show ∀ q ∈ lw_privs_1 ++ (lw_privs_2 ++ (lw_privs_3)), lw_okq q
  exact List.forall_mem_append.mpr ⟨lw_r1, List.forall_mem_append.mpr ⟨lw_r2, lw_r3⟩⟩
/-! ===== BEGIN words of one list among another's, by their places ===== -/
theorem goodIn_r {big : List Cond} (ws : List Cond) (ps : List Nat) (hp : ws = ps.filterMap (fun i => big[i]?)) (h : ws.all goodWord = true) : GoodIn big ws := by
  intro w hw
  have h1 := List.all_eq_true.mp h w hw
  rw [hp] at hw
  obtain ⟨i, -, hi⟩ := List.mem_filterMap.mp hw
  have hm : w ∈ big := by first | exact List.mem_of_getElem? hi | exact List.getElem?_mem hi
  exact ⟨hm, good_of_word h1⟩
theorem goodIn_app {big a b : List Cond} (ha : GoodIn big a) (hb : GoodIn big b) : GoodIn big (a ++ b) := fun w h => (List.mem_append.mp h).elim (ha w) (hb w)
theorem goodIn_ca {big a b : List Cond} {c : Cond} (ha : GoodIn big (c :: a)) (hb : GoodIn big b) : GoodIn big (c :: (a ++ b)) := fun w h => (List.mem_cons.mp h).elim (fun e => ha w (List.mem_cons.mpr (Or.inl e))) (fun h => (List.mem_append.mp h).elim (fun h => ha w (List.mem_cons.mpr (Or.inr h))) (hb w))
theorem goodIn_sub {big ws : List Cond} (hm : ∀ w ∈ ws, w ∈ big) (h : ws.all goodWord = true) : GoodIn big ws := fun w hw => ⟨hm w hw, good_of_word (List.all_eq_true.mp h w hw)⟩
/-! ===== END ===== -/

/-! ===== BEGIN printed: names, fields, word lists, decode rows ===== -/
def RX0 : String := "PaperStations$ArrivalText"
def TX0 : u_T := fun k => match k with
  | 0 => ("PaperStations$ArrivalText", "signs", "[C", true)
  | 1 => ("PaperStations$ArrivalText", "numbers", "[I", true)
  | _ => ("PaperStations$ArrivalText", "length", "I", false)
def tyX0 : Nat → FieldType := fun k => match k with
  | 0 => .array .char
  | 1 => .array .int
  | _ => .int
abbrev wsX00 : List Cond := u_ws RX0 TX0 3
theorem nmX0 : ∀ a, a < 3 → ∀ b, b < 3 → a ≠ b → (TX0 a).2.1 ≠ (TX0 b).2.1 := by decide +kernel
theorem tyX0_ok : ∀ k, k < 3 → parseFieldDescriptor (TX0 k).2.2.1 = some (tyX0 k) := by decide +kernel
abbrev cX0_init : ByteArray := prog_2_method_1_code
def yX0_init : MethodName := ⟨RX0, "<init>", "()V"⟩
abbrev cX0_fault : ByteArray := prog_2_method_2_code
def yX0_fault : MethodName := ⟨RX0, "fault", "()I"⟩
abbrev cX0_readNumbers : ByteArray := prog_2_method_3_code
def yX0_readNumbers : MethodName := ⟨RX0, "readNumbers", "()I"⟩
abbrev cX0_greatestNumber : ByteArray := prog_2_method_4_code
def yX0_greatestNumber : MethodName := ⟨RX0, "greatestNumber", "(I)I"⟩
abbrev cX0_isDigit : ByteArray := prog_2_method_5_code
def yX0_isDigit : MethodName := ⟨RX0, "isDigit", "(C)Z"⟩
def RX1 : String := "PaperStations$Clerk"
def TX1 : u_T := fun k => match k with
  | 0 => ("PaperStations$Clerk", "serves", "I", false)
  | 1 => ("PaperStations$Clerk", "longestRun", "I", false)
  | 2 => ("PaperStations$Clerk", "dutyStation", "I", false)
  | 3 => ("PaperStations$Clerk", "run", "I", false)
  | 4 => ("PaperStations$Clerk", "hoursWorked", "I", false)
  | _ => ("PaperStations$Clerk", "restEnds", "I", false)
def tyX1 : Nat → FieldType := fun k => match k with
  | 0 => .int
  | 1 => .int
  | 2 => .int
  | 3 => .int
  | 4 => .int
  | _ => .int
abbrev wsX10 : List Cond := u_ws RX1 TX1 6
theorem nmX1 : ∀ a, a < 6 → ∀ b, b < 6 → a ≠ b → (TX1 a).2.1 ≠ (TX1 b).2.1 := by decide +kernel
theorem tyX1_ok : ∀ k, k < 6 → parseFieldDescriptor (TX1 k).2.2.1 = some (tyX1 k) := by decide +kernel
abbrev cX1_init : ByteArray := prog_3_method_1_code
def yX1_init : MethodName := ⟨RX1, "<init>", "()V"⟩
abbrev cX1_copyFrom : ByteArray := prog_3_method_2_code
def yX1_copyFrom : MethodName := ⟨RX1, "copyFrom", "(LPaperStations$Clerk;)V"⟩
abbrev cX1_isOnDuty : ByteArray := prog_3_method_3_code
def yX1_isOnDuty : MethodName := ⟨RX1, "isOnDuty", "()Z"⟩
abbrev cX1_rests : ByteArray := prog_3_method_4_code
def yX1_rests : MethodName := ⟨RX1, "rests", "()Z"⟩
abbrev cX1_isFree : ByteArray := prog_3_method_5_code
def yX1_isFree : MethodName := ⟨RX1, "isFree", "()Z"⟩
abbrev cX1_mustLeave : ByteArray := prog_3_method_6_code
def yX1_mustLeave : MethodName := ⟨RX1, "mustLeave", "()Z"⟩
abbrev cX1_comeTo : ByteArray := prog_3_method_7_code
def yX1_comeTo : MethodName := ⟨RX1, "comeTo", "(I)V"⟩
abbrev cX1_leaveDuty : ByteArray := prog_3_method_8_code
def yX1_leaveDuty : MethodName := ⟨RX1, "leaveDuty", "(I)V"⟩
abbrev cX1_endHour : ByteArray := prog_3_method_9_code
def yX1_endHour : MethodName := ⟨RX1, "endHour", "()V"⟩
def RX2 : String := "PaperStations$Day"
def TX2 : u_T := fun k => match k with
  | 0 => ("PaperStations$Day", "hour", "I", false)
  | 1 => ("PaperStations$Day", "stationCount", "I", false)
  | 2 => ("PaperStations$Day", "clerkCount", "I", false)
  | 3 => ("PaperStations$Day", "stations", "[LPaperStations$Station;", true)
  | _ => ("PaperStations$Day", "clerks", "[LPaperStations$Clerk;", true)
def tyX2 : Nat → FieldType := fun k => match k with
  | 0 => .int
  | 1 => .int
  | 2 => .int
  | 3 => .array (.object "PaperStations$Station")
  | _ => .array (.object "PaperStations$Clerk")
abbrev wsX20 : List Cond := u_ws RX2 TX2 5
theorem nmX2 : ∀ a, a < 5 → ∀ b, b < 5 → a ≠ b → (TX2 a).2.1 ≠ (TX2 b).2.1 := by decide +kernel
theorem tyX2_ok : ∀ k, k < 5 → parseFieldDescriptor (TX2 k).2.2.1 = some (tyX2 k) := by decide +kernel
abbrev cX2_init : ByteArray := prog_4_method_1_code
def yX2_init : MethodName := ⟨RX2, "<init>", "()V"⟩
abbrev cX2_copyFrom : ByteArray := prog_4_method_2_code
def yX2_copyFrom : MethodName := ⟨RX2, "copyFrom", "(LPaperStations$Day;)V"⟩
abbrev cX2_hasStation : ByteArray := prog_4_method_3_code
def yX2_hasStation : MethodName := ⟨RX2, "hasStation", "(I)Z"⟩
abbrev cX2_hasClerk : ByteArray := prog_4_method_4_code
def yX2_hasClerk : MethodName := ⟨RX2, "hasClerk", "(I)Z"⟩
abbrev cX2_engageClerk : ByteArray := prog_4_method_5_code
def yX2_engageClerk : MethodName := ⟨RX2, "engageClerk", "(II)I"⟩
abbrev cX2_letHoursPass : ByteArray := prog_4_method_6_code
def yX2_letHoursPass : MethodName := ⟨RX2, "letHoursPass", "(I)I"⟩
abbrev cX2_letArrive : ByteArray := prog_4_method_7_code
def yX2_letArrive : MethodName := ⟨RX2, "letArrive", "()V"⟩
abbrev cX2_changeClerks : ByteArray := prog_4_method_8_code
def yX2_changeClerks : MethodName := ⟨RX2, "changeClerks", "()V"⟩
abbrev cX2_serveQueues : ByteArray := prog_4_method_9_code
def yX2_serveQueues : MethodName := ⟨RX2, "serveQueues", "()I"⟩
abbrev cX2_endHourOfClerks : ByteArray := prog_4_method_10_code
def yX2_endHourOfClerks : MethodName := ⟨RX2, "endHourOfClerks", "()V"⟩
abbrev cX2_firstFree : ByteArray := prog_4_method_11_code
def yX2_firstFree : MethodName := ⟨RX2, "firstFree", "()I"⟩
abbrev cX2_comesBefore : ByteArray := prog_4_method_12_code
def yX2_comesBefore : MethodName := ⟨RX2, "comesBefore", "(II)Z"⟩
abbrev cX2_placeAmongFree : ByteArray := prog_4_method_13_code
def yX2_placeAmongFree : MethodName := ⟨RX2, "placeAmongFree", "(I)I"⟩
abbrev cX2_placeByQueue : ByteArray := prog_4_method_14_code
def yX2_placeByQueue : MethodName := ⟨RX2, "placeByQueue", "(I)I"⟩
abbrev cX2_clerksAt : ByteArray := prog_4_method_15_code
def yX2_clerksAt : MethodName := ⟨RX2, "clerksAt", "(I)I"⟩
abbrev cX2_servedAnHourAt : ByteArray := prog_4_method_16_code
def yX2_servedAnHourAt : MethodName := ⟨RX2, "servedAnHourAt", "(I)I"⟩
abbrev cX2_hoursForQueueOf : ByteArray := prog_4_method_17_code
def yX2_hoursForQueueOf : MethodName := ⟨RX2, "hoursForQueueOf", "(I)I"⟩
abbrev cX2_clerksOnDuty : ByteArray := prog_4_method_18_code
def yX2_clerksOnDuty : MethodName := ⟨RX2, "clerksOnDuty", "()I"⟩
abbrev cX2_freeClerks : ByteArray := prog_4_method_19_code
def yX2_freeClerks : MethodName := ⟨RX2, "freeClerks", "()I"⟩
abbrev cX2_hoursWorked : ByteArray := prog_4_method_20_code
def yX2_hoursWorked : MethodName := ⟨RX2, "hoursWorked", "()I"⟩
abbrev cX2_stationsCounted : ByteArray := prog_4_method_21_code
def yX2_stationsCounted : MethodName := ⟨RX2, "stationsCounted", "(Z)I"⟩
def RX3 : String := "PaperStations$History"
def TX3 : u_T := fun k => match k with
  | 0 => ("PaperStations$History", "states", "[LPaperStations$Day;", true)
  | _ => ("PaperStations$History", "size", "I", false)
def tyX3 : Nat → FieldType := fun k => match k with
  | 0 => .array (.object "PaperStations$Day")
  | _ => .int
abbrev wsX30 : List Cond := u_ws RX3 TX3 2
theorem nmX3 : ∀ a, a < 2 → ∀ b, b < 2 → a ≠ b → (TX3 a).2.1 ≠ (TX3 b).2.1 := by decide +kernel
theorem tyX3_ok : ∀ k, k < 2 → parseFieldDescriptor (TX3 k).2.2.1 = some (tyX3 k) := by decide +kernel
abbrev cX3_init : ByteArray := prog_5_method_1_code
def yX3_init : MethodName := ⟨RX3, "<init>", "()V"⟩
abbrev cX3_remember : ByteArray := prog_5_method_2_code
def yX3_remember : MethodName := ⟨RX3, "remember", "(LPaperStations$Day;)V"⟩
abbrev cX3_dropOldest : ByteArray := prog_5_method_3_code
def yX3_dropOldest : MethodName := ⟨RX3, "dropOldest", "()V"⟩
abbrev cX3_takeBackInto : ByteArray := prog_5_method_4_code
def yX3_takeBackInto : MethodName := ⟨RX3, "takeBackInto", "(LPaperStations$Day;)V"⟩
def RX4 : String := "PaperStations$Station"
def TX4 : u_T := fun k => match k with
  | 0 => ("PaperStations$Station", "arrivals", "[I", true)
  | 1 => ("PaperStations$Station", "queue", "I", false)
  | 2 => ("PaperStations$Station", "longestQueue", "I", false)
  | 3 => ("PaperStations$Station", "served", "I", false)
  | 4 => ("PaperStations$Station", "hoursWaited", "I", false)
  | 5 => ("PaperStations$Station", "stock", "I", false)
  | 6 => ("PaperStations$Station", "issued", "I", false)
  | 7 => ("PaperStations$Station", "spoilt", "I", false)
  | 8 => ("PaperStations$Station", "carriedOff", "I", false)
  | 9 => ("PaperStations$Station", "found", "I", false)
  | 10 => ("PaperStations$Station", "box", "I", false)
  | 11 => ("PaperStations$Station", "latestCount", "I", false)
  | _ => ("PaperStations$Station", "timesCounted", "I", false)
def tyX4 : Nat → FieldType := fun k => match k with
  | 0 => .array .int
  | 1 => .int
  | 2 => .int
  | 3 => .int
  | 4 => .int
  | 5 => .int
  | 6 => .int
  | 7 => .int
  | 8 => .int
  | 9 => .int
  | 10 => .int
  | 11 => .int
  | _ => .int
abbrev wsX40 : List Cond := u_ws RX4 TX4 13
theorem nmX4 : ∀ a, a < 13 → ∀ b, b < 13 → a ≠ b → (TX4 a).2.1 ≠ (TX4 b).2.1 := by decide +kernel
theorem tyX4_ok : ∀ k, k < 13 → parseFieldDescriptor (TX4 k).2.2.1 = some (tyX4 k) := by decide +kernel
abbrev cX4_init : ByteArray := prog_6_method_1_code
def yX4_init : MethodName := ⟨RX4, "<init>", "()V"⟩
abbrev cX4_copyFrom : ByteArray := prog_6_method_2_code
def yX4_copyFrom : MethodName := ⟨RX4, "copyFrom", "(LPaperStations$Station;)V"⟩
abbrev cX4_becomeSumOf : ByteArray := prog_6_method_3_code
def yX4_becomeSumOf : MethodName := ⟨RX4, "becomeSumOf", "([LPaperStations$Station;I)V"⟩
abbrev cX4_serveQueue : ByteArray := prog_6_method_4_code
def yX4_serveQueue : MethodName := ⟨RX4, "serveQueue", "(I)I"⟩
abbrev cX4_allArrivals : ByteArray := prog_6_method_5_code
def yX4_allArrivals : MethodName := ⟨RX4, "allArrivals", "()I"⟩
abbrev cX4_isCounted : ByteArray := prog_6_method_6_code
def yX4_isCounted : MethodName := ⟨RX4, "isCounted", "()Z"⟩
abbrev cX4_countAgrees : ByteArray := prog_6_method_7_code
def yX4_countAgrees : MethodName := ⟨RX4, "countAgrees", "()Z"⟩
def RX5 : String := "PaperStations"
def TX5 : u_T := fun k => match k with
  | 0 => ("PaperStations", "day", "LPaperStations$Day;", true)
  | 1 => ("PaperStations", "forecast", "LPaperStations$Day;", true)
  | 2 => ("PaperStations", "snapshot", "LPaperStations$Day;", true)
  | 3 => ("PaperStations", "hasSnapshot", "Z", false)
  | 4 => ("PaperStations", "total", "LPaperStations$Station;", true)
  | 5 => ("PaperStations", "history", "LPaperStations$History;", true)
  | _ => ("PaperStations", "text", "LPaperStations$ArrivalText;", true)
def tyX5 : Nat → FieldType := fun k => match k with
  | 0 => .object "PaperStations$Day"
  | 1 => .object "PaperStations$Day"
  | 2 => .object "PaperStations$Day"
  | 3 => .boolean
  | 4 => .object "PaperStations$Station"
  | 5 => .object "PaperStations$History"
  | _ => .object "PaperStations$ArrivalText"
abbrev wsX50 : List Cond := u_ws RX5 TX5 7
theorem nmX5 : ∀ a, a < 7 → ∀ b, b < 7 → a ≠ b → (TX5 a).2.1 ≠ (TX5 b).2.1 := by decide +kernel
theorem tyX5_ok : ∀ k, k < 7 → parseFieldDescriptor (TX5 k).2.2.1 = some (tyX5 k) := by decide +kernel
abbrev cX5_init : ByteArray := prog_1_method_1_code
def yX5_init : MethodName := ⟨RX5, "<init>", "()V"⟩
abbrev cX5_addStation : ByteArray := prog_1_method_2_code
def yX5_addStation : MethodName := ⟨RX5, "addStation", "()I"⟩
abbrev cX5_addClerk : ByteArray := prog_1_method_3_code
def yX5_addClerk : MethodName := ⟨RX5, "addClerk", "(II)I"⟩
abbrev cX5_setArrivals : ByteArray := prog_1_method_4_code
def yX5_setArrivals : MethodName := ⟨RX5, "setArrivals", "(III)I"⟩
abbrev cX5_assign : ByteArray := prog_1_method_5_code
def yX5_assign : MethodName := ⟨RX5, "assign", "(II)I"⟩
abbrev cX5_relieve : ByteArray := prog_1_method_6_code
def yX5_relieve : MethodName := ⟨RX5, "relieve", "(I)I"⟩
abbrev cX5_pass : ByteArray := prog_1_method_7_code
def yX5_pass : MethodName := ⟨RX5, "pass", "(I)I"⟩
abbrev cX5_supply : ByteArray := prog_1_method_8_code
def yX5_supply : MethodName := ⟨RX5, "supply", "(II)I"⟩
abbrev cX5_movePapers : ByteArray := prog_1_method_9_code
def yX5_movePapers : MethodName := ⟨RX5, "movePapers", "(III)I"⟩
abbrev cX5_spoil : ByteArray := prog_1_method_10_code
def yX5_spoil : MethodName := ⟨RX5, "spoil", "(II)I"⟩
abbrev cX5_carryOff : ByteArray := prog_1_method_11_code
def yX5_carryOff : MethodName := ⟨RX5, "carryOff", "(II)I"⟩
abbrev cX5_find : ByteArray := prog_1_method_12_code
def yX5_find : MethodName := ⟨RX5, "find", "(II)I"⟩
abbrev cX5_countBox : ByteArray := prog_1_method_13_code
def yX5_countBox : MethodName := ⟨RX5, "countBox", "(II)I"⟩
abbrev cX5_type : ByteArray := prog_1_method_14_code
def yX5_type : MethodName := ⟨RX5, "type", "(C)I"⟩
abbrev cX5_clearText : ByteArray := prog_1_method_15_code
def yX5_clearText : MethodName := ⟨RX5, "clearText", "()I"⟩
abbrev cX5_readArrivals : ByteArray := prog_1_method_16_code
def yX5_readArrivals : MethodName := ⟨RX5, "readArrivals", "(II)I"⟩
abbrev cX5_undo : ByteArray := prog_1_method_17_code
def yX5_undo : MethodName := ⟨RX5, "undo", "()I"⟩
abbrev cX5_keep : ByteArray := prog_1_method_18_code
def yX5_keep : MethodName := ⟨RX5, "keep", "()I"⟩
abbrev cX5_restore : ByteArray := prog_1_method_19_code
def yX5_restore : MethodName := ⟨RX5, "restore", "()I"⟩
abbrev cX5_station : ByteArray := prog_1_method_20_code
def yX5_station : MethodName := ⟨RX5, "station", "(II)I"⟩
abbrev cX5_papers : ByteArray := prog_1_method_21_code
def yX5_papers : MethodName := ⟨RX5, "papers", "(II)I"⟩
abbrev cX5_clerk : ByteArray := prog_1_method_22_code
def yX5_clerk : MethodName := ⟨RX5, "clerk", "(II)I"⟩
abbrev cX5_arrivals : ByteArray := prog_1_method_23_code
def yX5_arrivals : MethodName := ⟨RX5, "arrivals", "(II)I"⟩
abbrev cX5_free : ByteArray := prog_1_method_24_code
def yX5_free : MethodName := ⟨RX5, "free", "(I)I"⟩
abbrev cX5_busiest : ByteArray := prog_1_method_25_code
def yX5_busiest : MethodName := ⟨RX5, "busiest", "(I)I"⟩
abbrev cX5_queueIn : ByteArray := prog_1_method_26_code
def yX5_queueIn : MethodName := ⟨RX5, "queueIn", "(II)I"⟩
abbrev cX5_lacks : ByteArray := prog_1_method_27_code
def yX5_lacks : MethodName := ⟨RX5, "lacks", "(I)I"⟩
abbrev cX5_count : ByteArray := prog_1_method_28_code
def yX5_count : MethodName := ⟨RX5, "count", "(I)I"⟩
abbrev cX5_total : ByteArray := prog_1_method_29_code
def yX5_total : MethodName := ⟨RX5, "total", "()LPaperStations$Station;"⟩
abbrev cX5_isHourToCome : ByteArray := prog_1_method_30_code
def yX5_isHourToCome : MethodName := ⟨RX5, "isHourToCome", "(I)Z"⟩
abbrev cX5_isPaperNumber : ByteArray := prog_1_method_31_code
def yX5_isPaperNumber : MethodName := ⟨RX5, "isPaperNumber", "(I)Z"⟩
abbrev cX5_isWithin : ByteArray := prog_1_method_32_code
def yX5_isWithin : MethodName := ⟨RX5, "isWithin", "(III)Z"⟩
def RX6 : String := "PaperStationsModel"
def TX6 : u_T := fun k => match k with
  | 0 => ("PaperStationsModel", "now", "[I", true)
  | 1 => ("PaperStationsModel", "past", "[I", true)
  | 2 => ("PaperStationsModel", "pasts", "I", false)
  | 3 => ("PaperStationsModel", "kept", "[I", true)
  | 4 => ("PaperStationsModel", "isKept", "Z", false)
  | 5 => ("PaperStationsModel", "trial", "[I", true)
  | 6 => ("PaperStationsModel", "text", "[I", true)
  | 7 => ("PaperStationsModel", "typed", "I", false)
  | 8 => ("PaperStationsModel", "numbers", "[I", true)
  | _ => ("PaperStationsModel", "numberMany", "I", false)
def tyX6 : Nat → FieldType := fun k => match k with
  | 0 => .array .int
  | 1 => .array .int
  | 2 => .int
  | 3 => .array .int
  | 4 => .boolean
  | 5 => .array .int
  | 6 => .array .int
  | 7 => .int
  | 8 => .array .int
  | _ => .int
abbrev wsX60 : List Cond := u_ws RX6 TX6 10
theorem nmX6 : ∀ a, a < 10 → ∀ b, b < 10 → a ≠ b → (TX6 a).2.1 ≠ (TX6 b).2.1 := by decide +kernel
theorem tyX6_ok : ∀ k, k < 10 → parseFieldDescriptor (TX6 k).2.2.1 = some (tyX6 k) := by decide +kernel
abbrev cX6_init : ByteArray := prog_8_method_1_code
def yX6_init : MethodName := ⟨RX6, "<init>", "()V"⟩
abbrev cX6_in : ByteArray := prog_8_method_2_code
def yX6_in : MethodName := ⟨RX6, "in", "(III)Z"⟩
abbrev cX6_copies : ByteArray := prog_8_method_3_code
def yX6_copies : MethodName := ⟨RX6, "copies", "([II[II)V"⟩
abbrev cX6_records : ByteArray := prog_8_method_4_code
def yX6_records : MethodName := ⟨RX6, "records", "()V"⟩
abbrev cX6_isStation : ByteArray := prog_8_method_5_code
def yX6_isStation : MethodName := ⟨RX6, "isStation", "(I)Z"⟩
abbrev cX6_isClerk : ByteArray := prog_8_method_6_code
def yX6_isClerk : MethodName := ⟨RX6, "isClerk", "(I)Z"⟩
abbrev cX6_of : ByteArray := prog_8_method_7_code
def yX6_of : MethodName := ⟨RX6, "of", "(II)I"⟩
abbrev cX6_adds : ByteArray := prog_8_method_8_code
def yX6_adds : MethodName := ⟨RX6, "adds", "(III)V"⟩
abbrev cX6_ofClerk : ByteArray := prog_8_method_9_code
def yX6_ofClerk : MethodName := ⟨RX6, "ofClerk", "(II)I"⟩
abbrev cX6_laysClerk : ByteArray := prog_8_method_10_code
def yX6_laysClerk : MethodName := ⟨RX6, "laysClerk", "(III)V"⟩
abbrev cX6_addStation : ByteArray := prog_8_method_11_code
def yX6_addStation : MethodName := ⟨RX6, "addStation", "()I"⟩
abbrev cX6_addClerk : ByteArray := prog_8_method_12_code
def yX6_addClerk : MethodName := ⟨RX6, "addClerk", "(II)I"⟩
abbrev cX6_setArrivals : ByteArray := prog_8_method_13_code
def yX6_setArrivals : MethodName := ⟨RX6, "setArrivals", "(III)I"⟩
abbrev cX6_isFree : ByteArray := prog_8_method_14_code
def yX6_isFree : MethodName := ⟨RX6, "isFree", "(I)Z"⟩
abbrev cX6_aheadOf : ByteArray := prog_8_method_15_code
def yX6_aheadOf : MethodName := ⟨RX6, "aheadOf", "(I)I"⟩
abbrev cX6_freeAt : ByteArray := prog_8_method_16_code
def yX6_freeAt : MethodName := ⟨RX6, "freeAt", "(I)I"⟩
abbrev cX6_onDutyAt : ByteArray := prog_8_method_17_code
def yX6_onDutyAt : MethodName := ⟨RX6, "onDutyAt", "(I)I"⟩
abbrev cX6_serveAt : ByteArray := prog_8_method_18_code
def yX6_serveAt : MethodName := ⟨RX6, "serveAt", "(I)I"⟩
abbrev cX6_assign : ByteArray := prog_8_method_19_code
def yX6_assign : MethodName := ⟨RX6, "assign", "(II)I"⟩
abbrev cX6_leaves : ByteArray := prog_8_method_20_code
def yX6_leaves : MethodName := ⟨RX6, "leaves", "(II)V"⟩
abbrev cX6_relieve : ByteArray := prog_8_method_21_code
def yX6_relieve : MethodName := ⟨RX6, "relieve", "(I)I"⟩
abbrev cX6_serves : ByteArray := prog_8_method_22_code
def yX6_serves : MethodName := ⟨RX6, "serves", "(I)I"⟩
abbrev cX6_takesTurns : ByteArray := prog_8_method_23_code
def yX6_takesTurns : MethodName := ⟨RX6, "takesTurns", "()V"⟩
abbrev cX6_hourPasses : ByteArray := prog_8_method_24_code
def yX6_hourPasses : MethodName := ⟨RX6, "hourPasses", "()I"⟩
abbrev cX6_hoursPass : ByteArray := prog_8_method_25_code
def yX6_hoursPass : MethodName := ⟨RX6, "hoursPass", "(I)I"⟩
abbrev cX6_pass : ByteArray := prog_8_method_26_code
def yX6_pass : MethodName := ⟨RX6, "pass", "(I)I"⟩
abbrev cX6_supply : ByteArray := prog_8_method_27_code
def yX6_supply : MethodName := ⟨RX6, "supply", "(II)I"⟩
abbrev cX6_movePapers : ByteArray := prog_8_method_28_code
def yX6_movePapers : MethodName := ⟨RX6, "movePapers", "(III)I"⟩
abbrev cX6_spoil : ByteArray := prog_8_method_29_code
def yX6_spoil : MethodName := ⟨RX6, "spoil", "(II)I"⟩
abbrev cX6_carryOff : ByteArray := prog_8_method_30_code
def yX6_carryOff : MethodName := ⟨RX6, "carryOff", "(II)I"⟩
abbrev cX6_find : ByteArray := prog_8_method_31_code
def yX6_find : MethodName := ⟨RX6, "find", "(II)I"⟩
abbrev cX6_countBox : ByteArray := prog_8_method_32_code
def yX6_countBox : MethodName := ⟨RX6, "countBox", "(II)I"⟩
abbrev cX6_type : ByteArray := prog_8_method_33_code
def yX6_type : MethodName := ⟨RX6, "type", "(C)I"⟩
abbrev cX6_clearText : ByteArray := prog_8_method_34_code
def yX6_clearText : MethodName := ⟨RX6, "clearText", "()I"⟩
abbrev cX6_signAt : ByteArray := prog_8_method_35_code
def yX6_signAt : MethodName := ⟨RX6, "signAt", "(I)I"⟩
abbrev cX6_faultOf : ByteArray := prog_8_method_36_code
def yX6_faultOf : MethodName := ⟨RX6, "faultOf", "()I"⟩
abbrev cX6_readArrivals : ByteArray := prog_8_method_37_code
def yX6_readArrivals : MethodName := ⟨RX6, "readArrivals", "(II)I"⟩
abbrev cX6_undo : ByteArray := prog_8_method_38_code
def yX6_undo : MethodName := ⟨RX6, "undo", "()I"⟩
abbrev cX6_keep : ByteArray := prog_8_method_39_code
def yX6_keep : MethodName := ⟨RX6, "keep", "()I"⟩
abbrev cX6_restore : ByteArray := prog_8_method_40_code
def yX6_restore : MethodName := ⟨RX6, "restore", "()I"⟩
abbrev cX6_toServe : ByteArray := prog_8_method_41_code
def yX6_toServe : MethodName := ⟨RX6, "toServe", "(I)I"⟩
abbrev cX6_arrivalsAll : ByteArray := prog_8_method_42_code
def yX6_arrivalsAll : MethodName := ⟨RX6, "arrivalsAll", "(I)I"⟩
abbrev cX6_station : ByteArray := prog_8_method_43_code
def yX6_station : MethodName := ⟨RX6, "station", "(II)I"⟩
abbrev cX6_papers : ByteArray := prog_8_method_44_code
def yX6_papers : MethodName := ⟨RX6, "papers", "(II)I"⟩
abbrev cX6_clerk : ByteArray := prog_8_method_45_code
def yX6_clerk : MethodName := ⟨RX6, "clerk", "(II)I"⟩
abbrev cX6_arrivals : ByteArray := prog_8_method_46_code
def yX6_arrivals : MethodName := ⟨RX6, "arrivals", "(II)I"⟩
abbrev cX6_free : ByteArray := prog_8_method_47_code
def yX6_free : MethodName := ⟨RX6, "free", "(I)I"⟩
abbrev cX6_busiest : ByteArray := prog_8_method_48_code
def yX6_busiest : MethodName := ⟨RX6, "busiest", "(I)I"⟩
abbrev cX6_queueIn : ByteArray := prog_8_method_49_code
def yX6_queueIn : MethodName := ⟨RX6, "queueIn", "(II)I"⟩
abbrev cX6_lacks : ByteArray := prog_8_method_50_code
def yX6_lacks : MethodName := ⟨RX6, "lacks", "(I)I"⟩
abbrev cX6_overStations : ByteArray := prog_8_method_51_code
def yX6_overStations : MethodName := ⟨RX6, "overStations", "(I)I"⟩
abbrev cX6_countedAs : ByteArray := prog_8_method_52_code
def yX6_countedAs : MethodName := ⟨RX6, "countedAs", "(Z)I"⟩
abbrev cX6_overClerks : ByteArray := prog_8_method_53_code
def yX6_overClerks : MethodName := ⟨RX6, "overClerks", "(I)I"⟩
abbrev cX6_count : ByteArray := prog_8_method_54_code
def yX6_count : MethodName := ⟨RX6, "count", "(I)I"⟩
def RJ9 : String := "java/lang/Math"
def TJ9 : u_T := fun k => match k with
  | _ => ("", "", "", false)
def tyJ9 : Nat → FieldType := fun k => match k with
  | _ => .int
abbrev wsJ90 : List Cond := u_ws RJ9 TJ9 0
theorem nmJ9 : ∀ a, a < 0 → ∀ b, b < 0 → a ≠ b → (TJ9 a).2.1 ≠ (TJ9 b).2.1 := by decide +kernel
theorem tyJ9_ok : ∀ k, k < 0 → parseFieldDescriptor (TJ9 k).2.2.1 = some (tyJ9 k) := by decide +kernel
abbrev cJ9_max_7cf53 : ByteArray := prog_9_method_65_code
def yJ9_max_7cf53 : MethodName := ⟨RJ9, "max", "(II)I"⟩
abbrev cJ9_min_7cf53 : ByteArray := prog_9_method_69_code
def yJ9_min_7cf53 : MethodName := ⟨RJ9, "min", "(II)I"⟩
def RJ10 : String := "java/lang/System"
def TJ10 : u_T := fun k => match k with
  | _ => ("", "", "", false)
def tyJ10 : Nat → FieldType := fun k => match k with
  | _ => .int
abbrev wsJ100 : List Cond := u_ws RJ10 TJ10 0
theorem nmJ10 : ∀ a, a < 0 → ∀ b, b < 0 → a ≠ b → (TJ10 a).2.1 ≠ (TJ10 b).2.1 := by decide +kernel
theorem tyJ10_ok : ∀ k, k < 0 → parseFieldDescriptor (TJ10 k).2.2.1 = some (tyJ10 k) := by decide +kernel
def RL : String := "PaperStationsLaw"
abbrev cL_law : ByteArray := code
def yL_law : MethodName := ⟨RL, "law", "([I)Z"⟩
abbrev vwCl : List vw_C := [(RX0, TX0, 3), (RX1, TX1, 6), (RX2, TX2, 5), (RX3, TX3, 2), (RX4, TX4, 13), (RX5, TX5, 7), (RX6, TX6, 10)]
/-- the tables' words that pass from state to state -/
def ps_T : List Cond := lw_tbl.filter goodWord
theorem ps_in {w : Cond} (i : Nat) (h : lw_tbl[i]? = some w) (g : goodWord w = true) : w ∈ ps_T := List.mem_filter.mpr ⟨List.mem_of_getElem? h, g⟩
theorem ps_ins (ws : List Cond) (ps : List Nat) (hp : ws = ps.filterMap (fun i => lw_tbl[i]?)) (g : ws.all goodWord = true) : ∀ w ∈ ws, w ∈ ps_T := by
  intro w hw
  have h1 := List.all_eq_true.mp g w hw
  rw [hp] at hw
  obtain ⟨i, -, hi⟩ := List.mem_filterMap.mp hw
  exact ps_in i hi h1
theorem ps_goodT : GoodIn lw_tbl ps_T := fun w h => ⟨(List.mem_filter.mp h).1, good_of_word (List.mem_filter.mp h).2⟩
theorem hinX0 : ∀ w ∈ u_ws RX0 TX0 3, w ∈ ps_T := ps_ins _ [207, 209, 211] (by decide +kernel) (by decide +kernel)
theorem hinX1 : ∀ w ∈ u_ws RX1 TX1 6, w ∈ ps_T := ps_ins _ [142, 144, 146, 148, 150, 152] (by decide +kernel) (by decide +kernel)
theorem hinX2 : ∀ w ∈ u_ws RX2 TX2 5, w ∈ ps_T := ps_ins _ [165, 167, 169, 171, 173] (by decide +kernel) (by decide +kernel)
theorem hinX3 : ∀ w ∈ u_ws RX3 TX3 2, w ∈ ps_T := ps_ins _ [190, 192] (by decide +kernel) (by decide +kernel)
theorem hinX4 : ∀ w ∈ u_ws RX4 TX4 13, w ∈ ps_T := ps_ins _ [92, 94, 96, 98, 100, 102, 104, 106, 108, 110, 112, 114, 116] (by decide +kernel) (by decide +kernel)
theorem hinX5 : ∀ w ∈ u_ws RX5 TX5 7, w ∈ ps_T := ps_ins _ [222, 224, 226, 228, 230, 232, 234] (by decide +kernel) (by decide +kernel)
theorem hinX6 : ∀ w ∈ u_ws RX6 TX6 10, w ∈ ps_T := ps_ins _ [561, 563, 565, 567, 569, 571, 573, 575, 577, 579] (by decide +kernel) (by decide +kernel)
theorem lk_L_7 : Cond.classLink RL 7 RX5 ∈ ps_T := ps_in 43 (by decide +kernel) (by decide +kernel)
theorem lk_L_9 : Cond.methodLink RL 9 yX5_init ∈ ps_T := ps_in 45 (by decide +kernel) (by decide +kernel)
theorem lk_X5_3 : Cond.methodLink RX5 3 objectInit ∈ ps_T := ps_in 48 (by decide +kernel) (by decide +kernel)
theorem lk_X5_9 : Cond.classLink RX5 9 RX2 ∈ ps_T := ps_in 51 (by decide +kernel) (by decide +kernel)
theorem lk_X5_11 : Cond.methodLink RX5 11 yX2_init ∈ ps_T := ps_in 53 (by decide +kernel) (by decide +kernel)
theorem lk_X2_3 : Cond.methodLink RX2 3 objectInit ∈ ps_T := ps_in 56 (by decide +kernel) (by decide +kernel)
theorem lk_X2_9 : Cond.classLink RX2 9 RX4 ∈ ps_T := ps_in 57 (by decide +kernel) (by decide +kernel)
theorem lk_X2_17 : Cond.methodLink RX2 17 yX4_init ∈ ps_T := ps_in 60 (by decide +kernel) (by decide +kernel)
theorem lk_X4_3 : Cond.methodLink RX4 3 objectInit ∈ ps_T := ps_in 63 (by decide +kernel) (by decide +kernel)
theorem lk_X4_9 : Cond.fieldLink RX4 9 "PaperStations$Station" "arrivals" "[I" ∈ ps_T := ps_in 64 (by decide +kernel) (by decide +kernel)
theorem lk_X5_73 : Cond.fieldLink RX5 73 "PaperStations$Station" "arrivals" "[I" ∈ ps_T := ps_in 65 (by decide +kernel) (by decide +kernel)
theorem lk_X2_64 : Cond.fieldLink RX2 64 "PaperStations$Station" "arrivals" "[I" ∈ ps_T := ps_in 66 (by decide +kernel) (by decide +kernel)
theorem lk_X4_21 : Cond.fieldLink RX4 21 "PaperStations$Station" "queue" "I" ∈ ps_T := ps_in 67 (by decide +kernel) (by decide +kernel)
theorem lk_X2_61 : Cond.fieldLink RX2 61 "PaperStations$Station" "queue" "I" ∈ ps_T := ps_in 68 (by decide +kernel) (by decide +kernel)
theorem lk_X5_135 : Cond.fieldLink RX5 135 "PaperStations$Station" "queue" "I" ∈ ps_T := ps_in 69 (by decide +kernel) (by decide +kernel)
theorem lk_X4_25 : Cond.fieldLink RX4 25 "PaperStations$Station" "longestQueue" "I" ∈ ps_T := ps_in 70 (by decide +kernel) (by decide +kernel)
theorem lk_X5_183 : Cond.fieldLink RX5 183 "PaperStations$Station" "longestQueue" "I" ∈ ps_T := ps_in 71 (by decide +kernel) (by decide +kernel)
theorem lk_X4_28 : Cond.fieldLink RX4 28 "PaperStations$Station" "served" "I" ∈ ps_T := ps_in 72 (by decide +kernel) (by decide +kernel)
theorem lk_X5_186 : Cond.fieldLink RX5 186 "PaperStations$Station" "served" "I" ∈ ps_T := ps_in 73 (by decide +kernel) (by decide +kernel)
theorem lk_X4_31 : Cond.fieldLink RX4 31 "PaperStations$Station" "hoursWaited" "I" ∈ ps_T := ps_in 74 (by decide +kernel) (by decide +kernel)
theorem lk_X5_189 : Cond.fieldLink RX5 189 "PaperStations$Station" "hoursWaited" "I" ∈ ps_T := ps_in 75 (by decide +kernel) (by decide +kernel)
theorem lk_X4_34 : Cond.fieldLink RX4 34 "PaperStations$Station" "stock" "I" ∈ ps_T := ps_in 76 (by decide +kernel) (by decide +kernel)
theorem lk_X5_116 : Cond.fieldLink RX5 116 "PaperStations$Station" "stock" "I" ∈ ps_T := ps_in 77 (by decide +kernel) (by decide +kernel)
theorem lk_X4_37 : Cond.fieldLink RX4 37 "PaperStations$Station" "issued" "I" ∈ ps_T := ps_in 78 (by decide +kernel) (by decide +kernel)
theorem lk_X5_125 : Cond.fieldLink RX5 125 "PaperStations$Station" "issued" "I" ∈ ps_T := ps_in 79 (by decide +kernel) (by decide +kernel)
theorem lk_X4_40 : Cond.fieldLink RX4 40 "PaperStations$Station" "spoilt" "I" ∈ ps_T := ps_in 80 (by decide +kernel) (by decide +kernel)
theorem lk_X5_122 : Cond.fieldLink RX5 122 "PaperStations$Station" "spoilt" "I" ∈ ps_T := ps_in 81 (by decide +kernel) (by decide +kernel)
theorem lk_X4_43 : Cond.fieldLink RX4 43 "PaperStations$Station" "carriedOff" "I" ∈ ps_T := ps_in 82 (by decide +kernel) (by decide +kernel)
theorem lk_X5_128 : Cond.fieldLink RX5 128 "PaperStations$Station" "carriedOff" "I" ∈ ps_T := ps_in 83 (by decide +kernel) (by decide +kernel)
theorem lk_X4_46 : Cond.fieldLink RX4 46 "PaperStations$Station" "found" "I" ∈ ps_T := ps_in 84 (by decide +kernel) (by decide +kernel)
theorem lk_X5_131 : Cond.fieldLink RX5 131 "PaperStations$Station" "found" "I" ∈ ps_T := ps_in 85 (by decide +kernel) (by decide +kernel)
theorem lk_X4_49 : Cond.fieldLink RX4 49 "PaperStations$Station" "box" "I" ∈ ps_T := ps_in 86 (by decide +kernel) (by decide +kernel)
theorem lk_X5_119 : Cond.fieldLink RX5 119 "PaperStations$Station" "box" "I" ∈ ps_T := ps_in 87 (by decide +kernel) (by decide +kernel)
theorem lk_X4_52 : Cond.fieldLink RX4 52 "PaperStations$Station" "latestCount" "I" ∈ ps_T := ps_in 88 (by decide +kernel) (by decide +kernel)
theorem lk_X5_141 : Cond.fieldLink RX5 141 "PaperStations$Station" "latestCount" "I" ∈ ps_T := ps_in 89 (by decide +kernel) (by decide +kernel)
theorem lk_X4_55 : Cond.fieldLink RX4 55 "PaperStations$Station" "timesCounted" "I" ∈ ps_T := ps_in 90 (by decide +kernel) (by decide +kernel)
theorem lk_X5_138 : Cond.fieldLink RX5 138 "PaperStations$Station" "timesCounted" "I" ∈ ps_T := ps_in 91 (by decide +kernel) (by decide +kernel)
theorem lk_X2_18 : Cond.classLink RX2 18 RX1 ∈ ps_T := ps_in 120 (by decide +kernel) (by decide +kernel)
theorem lk_X2_24 : Cond.methodLink RX2 24 yX1_init ∈ ps_T := ps_in 123 (by decide +kernel) (by decide +kernel)
theorem lk_X1_3 : Cond.methodLink RX1 3 objectInit ∈ ps_T := ps_in 126 (by decide +kernel) (by decide +kernel)
theorem lk_X1_15 : Cond.fieldLink RX1 15 "PaperStations$Clerk" "serves" "I" ∈ ps_T := ps_in 127 (by decide +kernel) (by decide +kernel)
theorem lk_X2_42 : Cond.fieldLink RX2 42 "PaperStations$Clerk" "serves" "I" ∈ ps_T := ps_in 128 (by decide +kernel) (by decide +kernel)
theorem lk_X5_205 : Cond.fieldLink RX5 205 "PaperStations$Clerk" "serves" "I" ∈ ps_T := ps_in 129 (by decide +kernel) (by decide +kernel)
theorem lk_X1_18 : Cond.fieldLink RX1 18 "PaperStations$Clerk" "longestRun" "I" ∈ ps_T := ps_in 130 (by decide +kernel) (by decide +kernel)
theorem lk_X2_45 : Cond.fieldLink RX2 45 "PaperStations$Clerk" "longestRun" "I" ∈ ps_T := ps_in 131 (by decide +kernel) (by decide +kernel)
theorem lk_X5_208 : Cond.fieldLink RX5 208 "PaperStations$Clerk" "longestRun" "I" ∈ ps_T := ps_in 132 (by decide +kernel) (by decide +kernel)
theorem lk_X1_9 : Cond.fieldLink RX1 9 "PaperStations$Clerk" "dutyStation" "I" ∈ ps_T := ps_in 133 (by decide +kernel) (by decide +kernel)
theorem lk_X2_72 : Cond.fieldLink RX2 72 "PaperStations$Clerk" "dutyStation" "I" ∈ ps_T := ps_in 134 (by decide +kernel) (by decide +kernel)
theorem lk_X5_211 : Cond.fieldLink RX5 211 "PaperStations$Clerk" "dutyStation" "I" ∈ ps_T := ps_in 135 (by decide +kernel) (by decide +kernel)
theorem lk_X1_21 : Cond.fieldLink RX1 21 "PaperStations$Clerk" "run" "I" ∈ ps_T := ps_in 136 (by decide +kernel) (by decide +kernel)
theorem lk_X5_101 : Cond.fieldLink RX5 101 "PaperStations$Clerk" "run" "I" ∈ ps_T := ps_in 137 (by decide +kernel) (by decide +kernel)
theorem lk_X1_24 : Cond.fieldLink RX1 24 "PaperStations$Clerk" "hoursWorked" "I" ∈ ps_T := ps_in 138 (by decide +kernel) (by decide +kernel)
theorem lk_X2_102 : Cond.fieldLink RX2 102 "PaperStations$Clerk" "hoursWorked" "I" ∈ ps_T := ps_in 139 (by decide +kernel) (by decide +kernel)
theorem lk_X5_214 : Cond.fieldLink RX5 214 "PaperStations$Clerk" "hoursWorked" "I" ∈ ps_T := ps_in 140 (by decide +kernel) (by decide +kernel)
theorem lk_X1_27 : Cond.fieldLink RX1 27 "PaperStations$Clerk" "restEnds" "I" ∈ ps_T := ps_in 141 (by decide +kernel) (by decide +kernel)
theorem lk_X2_25 : Cond.fieldLink RX2 25 "PaperStations$Day" "hour" "I" ∈ ps_T := ps_in 155 (by decide +kernel) (by decide +kernel)
theorem lk_X5_107 : Cond.fieldLink RX5 107 "PaperStations$Day" "hour" "I" ∈ ps_T := ps_in 156 (by decide +kernel) (by decide +kernel)
theorem lk_X5_43 : Cond.fieldLink RX5 43 "PaperStations$Day" "stationCount" "I" ∈ ps_T := ps_in 157 (by decide +kernel) (by decide +kernel)
theorem lk_X2_29 : Cond.fieldLink RX2 29 "PaperStations$Day" "stationCount" "I" ∈ ps_T := ps_in 158 (by decide +kernel) (by decide +kernel)
theorem lk_X2_32 : Cond.fieldLink RX2 32 "PaperStations$Day" "clerkCount" "I" ∈ ps_T := ps_in 159 (by decide +kernel) (by decide +kernel)
theorem lk_X5_55 : Cond.fieldLink RX5 55 "PaperStations$Day" "clerkCount" "I" ∈ ps_T := ps_in 160 (by decide +kernel) (by decide +kernel)
theorem lk_X2_11 : Cond.fieldLink RX2 11 "PaperStations$Day" "stations" "[LPaperStations$Station;" ∈ ps_T := ps_in 161 (by decide +kernel) (by decide +kernel)
theorem lk_X5_69 : Cond.fieldLink RX5 69 "PaperStations$Day" "stations" "[LPaperStations$Station;" ∈ ps_T := ps_in 162 (by decide +kernel) (by decide +kernel)
theorem lk_X2_20 : Cond.fieldLink RX2 20 "PaperStations$Day" "clerks" "[LPaperStations$Clerk;" ∈ ps_T := ps_in 163 (by decide +kernel) (by decide +kernel)
theorem lk_X5_80 : Cond.fieldLink RX5 80 "PaperStations$Day" "clerks" "[LPaperStations$Clerk;" ∈ ps_T := ps_in 164 (by decide +kernel) (by decide +kernel)
theorem lk_X5_22 : Cond.classLink RX5 22 RX4 ∈ ps_T := ps_in 176 (by decide +kernel) (by decide +kernel)
theorem lk_X5_24 : Cond.methodLink RX5 24 yX4_init ∈ ps_T := ps_in 177 (by decide +kernel) (by decide +kernel)
theorem lk_X5_29 : Cond.classLink RX5 29 RX3 ∈ ps_T := ps_in 178 (by decide +kernel) (by decide +kernel)
theorem lk_X5_31 : Cond.methodLink RX5 31 yX3_init ∈ ps_T := ps_in 180 (by decide +kernel) (by decide +kernel)
theorem lk_X3_3 : Cond.methodLink RX3 3 objectInit ∈ ps_T := ps_in 183 (by decide +kernel) (by decide +kernel)
theorem lk_X3_9 : Cond.classLink RX3 9 RX2 ∈ ps_T := ps_in 184 (by decide +kernel) (by decide +kernel)
theorem lk_X3_17 : Cond.methodLink RX3 17 yX2_init ∈ ps_T := ps_in 186 (by decide +kernel) (by decide +kernel)
theorem lk_X3_11 : Cond.fieldLink RX3 11 "PaperStations$History" "states" "[LPaperStations$Day;" ∈ ps_T := ps_in 187 (by decide +kernel) (by decide +kernel)
theorem lk_X3_18 : Cond.fieldLink RX3 18 "PaperStations$History" "size" "I" ∈ ps_T := ps_in 188 (by decide +kernel) (by decide +kernel)
theorem lk_X5_170 : Cond.fieldLink RX5 170 "PaperStations$History" "size" "I" ∈ ps_T := ps_in 189 (by decide +kernel) (by decide +kernel)
theorem lk_X5_36 : Cond.classLink RX5 36 RX0 ∈ ps_T := ps_in 195 (by decide +kernel) (by decide +kernel)
theorem lk_X5_38 : Cond.methodLink RX5 38 yX0_init ∈ ps_T := ps_in 197 (by decide +kernel) (by decide +kernel)
theorem lk_X0_3 : Cond.methodLink RX0 3 objectInit ∈ ps_T := ps_in 200 (by decide +kernel) (by decide +kernel)
theorem lk_X0_9 : Cond.fieldLink RX0 9 "PaperStations$ArrivalText" "signs" "[C" ∈ ps_T := ps_in 201 (by decide +kernel) (by decide +kernel)
theorem lk_X5_147 : Cond.fieldLink RX5 147 "PaperStations$ArrivalText" "signs" "[C" ∈ ps_T := ps_in 202 (by decide +kernel) (by decide +kernel)
theorem lk_X0_15 : Cond.fieldLink RX0 15 "PaperStations$ArrivalText" "numbers" "[I" ∈ ps_T := ps_in 203 (by decide +kernel) (by decide +kernel)
theorem lk_X5_161 : Cond.fieldLink RX5 161 "PaperStations$ArrivalText" "numbers" "[I" ∈ ps_T := ps_in 204 (by decide +kernel) (by decide +kernel)
theorem lk_X0_19 : Cond.fieldLink RX0 19 "PaperStations$ArrivalText" "length" "I" ∈ ps_T := ps_in 205 (by decide +kernel) (by decide +kernel)
theorem lk_X5_144 : Cond.fieldLink RX5 144 "PaperStations$ArrivalText" "length" "I" ∈ ps_T := ps_in 206 (by decide +kernel) (by decide +kernel)
theorem lk_X5_12 : Cond.fieldLink RX5 12 "PaperStations" "day" "LPaperStations$Day;" ∈ ps_T := ps_in 215 (by decide +kernel) (by decide +kernel)
theorem lk_X5_16 : Cond.fieldLink RX5 16 "PaperStations" "forecast" "LPaperStations$Day;" ∈ ps_T := ps_in 216 (by decide +kernel) (by decide +kernel)
theorem lk_X5_19 : Cond.fieldLink RX5 19 "PaperStations" "snapshot" "LPaperStations$Day;" ∈ ps_T := ps_in 217 (by decide +kernel) (by decide +kernel)
theorem lk_X5_179 : Cond.fieldLink RX5 179 "PaperStations" "hasSnapshot" "Z" ∈ ps_T := ps_in 218 (by decide +kernel) (by decide +kernel)
theorem lk_X5_25 : Cond.fieldLink RX5 25 "PaperStations" "total" "LPaperStations$Station;" ∈ ps_T := ps_in 219 (by decide +kernel) (by decide +kernel)
theorem lk_X5_32 : Cond.fieldLink RX5 32 "PaperStations" "history" "LPaperStations$History;" ∈ ps_T := ps_in 220 (by decide +kernel) (by decide +kernel)
theorem lk_X5_39 : Cond.fieldLink RX5 39 "PaperStations" "text" "LPaperStations$ArrivalText;" ∈ ps_T := ps_in 221 (by decide +kernel) (by decide +kernel)
theorem lk_L_13 : Cond.methodLink RL 13 yX5_addStation ∈ ps_T := ps_in 237 (by decide +kernel) (by decide +kernel)
theorem lk_X5_47 : Cond.methodLink RX5 47 yX3_remember ∈ ps_T := ps_in 241 (by decide +kernel) (by decide +kernel)
theorem lk_X3_22 : Cond.methodLink RX3 22 yX3_dropOldest ∈ ps_T := ps_in 245 (by decide +kernel) (by decide +kernel)
theorem lk_X3_25 : Cond.methodLink RX3 25 yX2_copyFrom ∈ ps_T := ps_in 249 (by decide +kernel) (by decide +kernel)
theorem lk_X2_35 : Cond.methodLink RX2 35 yX4_copyFrom ∈ ps_T := ps_in 253 (by decide +kernel) (by decide +kernel)
theorem lk_X4_15 : Cond.methodLink RX4 15 arraycopyName ∈ ps_T := ps_in 257 (by decide +kernel) (by decide +kernel)
theorem lk_X2_39 : Cond.methodLink RX2 39 yX1_copyFrom ∈ ps_T := ps_in 260 (by decide +kernel) (by decide +kernel)
theorem lk_L_18 : Cond.methodLink RL 18 yX5_addClerk ∈ ps_T := ps_in 264 (by decide +kernel) (by decide +kernel)
theorem lk_X5_51 : Cond.methodLink RX5 51 yX5_isWithin ∈ ps_T := ps_in 268 (by decide +kernel) (by decide +kernel)
theorem lk_X5_58 : Cond.methodLink RX5 58 yX2_engageClerk ∈ ps_T := ps_in 271 (by decide +kernel) (by decide +kernel)
theorem lk_L_23 : Cond.methodLink RL 23 yX5_setArrivals ∈ ps_T := ps_in 275 (by decide +kernel) (by decide +kernel)
theorem lk_X5_62 : Cond.methodLink RX5 62 yX2_hasStation ∈ ps_T := ps_in 279 (by decide +kernel) (by decide +kernel)
theorem lk_X5_66 : Cond.methodLink RX5 66 yX5_isHourToCome ∈ ps_T := ps_in 283 (by decide +kernel) (by decide +kernel)
theorem lk_L_28 : Cond.methodLink RL 28 yX5_assign ∈ ps_T := ps_in 287 (by decide +kernel) (by decide +kernel)
theorem lk_X5_77 : Cond.methodLink RX5 77 yX2_hasClerk ∈ ps_T := ps_in 291 (by decide +kernel) (by decide +kernel)
theorem lk_X5_84 : Cond.methodLink RX5 84 yX1_isFree ∈ ps_T := ps_in 295 (by decide +kernel) (by decide +kernel)
theorem lk_X1_30 : Cond.methodLink RX1 30 yX1_isOnDuty ∈ ps_T := ps_in 299 (by decide +kernel) (by decide +kernel)
theorem lk_X1_34 : Cond.methodLink RX1 34 yX1_rests ∈ ps_T := ps_in 303 (by decide +kernel) (by decide +kernel)
theorem lk_X5_90 : Cond.methodLink RX5 90 yX1_comeTo ∈ ps_T := ps_in 307 (by decide +kernel) (by decide +kernel)
theorem lk_X5_94 : Cond.methodLink RX5 94 yX2_clerksAt ∈ ps_T := ps_in 311 (by decide +kernel) (by decide +kernel)
theorem lk_L_32 : Cond.methodLink RL 32 yX5_relieve ∈ ps_T := ps_in 315 (by decide +kernel) (by decide +kernel)
theorem lk_X5_98 : Cond.methodLink RX5 98 yX1_isOnDuty ∈ ps_T := ps_in 319 (by decide +kernel) (by decide +kernel)
theorem lk_X5_104 : Cond.methodLink RX5 104 yX1_leaveDuty ∈ ps_T := ps_in 320 (by decide +kernel) (by decide +kernel)
theorem lk_L_37 : Cond.methodLink RL 37 yX5_pass ∈ ps_T := ps_in 324 (by decide +kernel) (by decide +kernel)
theorem lk_X5_110 : Cond.methodLink RX5 110 yX2_letHoursPass ∈ ps_T := ps_in 328 (by decide +kernel) (by decide +kernel)
theorem lk_X2_48 : Cond.methodLink RX2 48 yX2_letArrive ∈ ps_T := ps_in 332 (by decide +kernel) (by decide +kernel)
theorem lk_X2_51 : Cond.methodLink RX2 51 yX2_changeClerks ∈ ps_T := ps_in 336 (by decide +kernel) (by decide +kernel)
theorem lk_X2_68 : Cond.methodLink RX2 68 yX1_mustLeave ∈ ps_T := ps_in 340 (by decide +kernel) (by decide +kernel)
theorem lk_X2_75 : Cond.methodLink RX2 75 yX1_leaveDuty ∈ ps_T := ps_in 344 (by decide +kernel) (by decide +kernel)
theorem lk_X2_79 : Cond.methodLink RX2 79 yX2_firstFree ∈ ps_T := ps_in 345 (by decide +kernel) (by decide +kernel)
theorem lk_X2_95 : Cond.methodLink RX2 95 yX1_isFree ∈ ps_T := ps_in 349 (by decide +kernel) (by decide +kernel)
theorem lk_X2_98 : Cond.methodLink RX2 98 yX2_comesBefore ∈ ps_T := ps_in 350 (by decide +kernel) (by decide +kernel)
theorem lk_X2_82 : Cond.methodLink RX2 82 yX1_comeTo ∈ ps_T := ps_in 354 (by decide +kernel) (by decide +kernel)
theorem lk_X2_54 : Cond.methodLink RX2 54 yX2_serveQueues ∈ ps_T := ps_in 355 (by decide +kernel) (by decide +kernel)
theorem lk_X2_85 : Cond.methodLink RX2 85 yX2_servedAnHourAt ∈ ps_T := ps_in 359 (by decide +kernel) (by decide +kernel)
theorem lk_X2_89 : Cond.methodLink RX2 89 yX4_serveQueue ∈ ps_T := ps_in 363 (by decide +kernel) (by decide +kernel)
theorem lk_X4_58 : Cond.methodLink RX4 58 Lib.Math.min.name ∈ ps_T := ps_in 367 (by decide +kernel) (by decide +kernel)
theorem lk_X4_64 : Cond.methodLink RX4 64 Lib.Math.max.name ∈ ps_T := ps_in 370 (by decide +kernel) (by decide +kernel)
theorem lk_X2_58 : Cond.methodLink RX2 58 yX2_endHourOfClerks ∈ ps_T := ps_in 373 (by decide +kernel) (by decide +kernel)
theorem lk_X2_92 : Cond.methodLink RX2 92 yX1_endHour ∈ ps_T := ps_in 377 (by decide +kernel) (by decide +kernel)
theorem lk_L_41 : Cond.methodLink RL 41 yX5_supply ∈ ps_T := ps_in 381 (by decide +kernel) (by decide +kernel)
theorem lk_X5_113 : Cond.methodLink RX5 113 yX5_isPaperNumber ∈ ps_T := ps_in 385 (by decide +kernel) (by decide +kernel)
theorem lk_L_45 : Cond.methodLink RL 45 yX5_movePapers ∈ ps_T := ps_in 388 (by decide +kernel) (by decide +kernel)
theorem lk_L_49 : Cond.methodLink RL 49 yX5_spoil ∈ ps_T := ps_in 392 (by decide +kernel) (by decide +kernel)
theorem lk_L_53 : Cond.methodLink RL 53 yX5_carryOff ∈ ps_T := ps_in 396 (by decide +kernel) (by decide +kernel)
theorem lk_L_57 : Cond.methodLink RL 57 yX5_find ∈ ps_T := ps_in 400 (by decide +kernel) (by decide +kernel)
theorem lk_L_61 : Cond.methodLink RL 61 yX5_countBox ∈ ps_T := ps_in 404 (by decide +kernel) (by decide +kernel)
theorem lk_X5_134 : Cond.constant RX5 134 (99999) ∈ ps_T := ps_in 408 (by decide +kernel) (by decide +kernel)
theorem lk_L_65 : Cond.methodLink RL 65 yX5_type ∈ ps_T := ps_in 409 (by decide +kernel) (by decide +kernel)
theorem lk_L_70 : Cond.methodLink RL 70 yX5_clearText ∈ ps_T := ps_in 413 (by decide +kernel) (by decide +kernel)
theorem lk_L_74 : Cond.methodLink RL 74 yX5_readArrivals ∈ ps_T := ps_in 417 (by decide +kernel) (by decide +kernel)
theorem lk_X5_151 : Cond.methodLink RX5 151 yX0_fault ∈ ps_T := ps_in 421 (by decide +kernel) (by decide +kernel)
theorem lk_X0_23 : Cond.methodLink RX0 23 yX0_isDigit ∈ ps_T := ps_in 425 (by decide +kernel) (by decide +kernel)
theorem lk_X5_155 : Cond.methodLink RX5 155 yX0_readNumbers ∈ ps_T := ps_in 428 (by decide +kernel) (by decide +kernel)
theorem lk_X5_158 : Cond.methodLink RX5 158 yX0_greatestNumber ∈ ps_T := ps_in 432 (by decide +kernel) (by decide +kernel)
theorem lk_X0_27 : Cond.methodLink RX0 27 Lib.Math.max.name ∈ ps_T := ps_in 436 (by decide +kernel) (by decide +kernel)
theorem lk_X5_164 : Cond.methodLink RX5 164 arraycopyName ∈ ps_T := ps_in 437 (by decide +kernel) (by decide +kernel)
theorem lk_L_78 : Cond.methodLink RL 78 yX5_undo ∈ ps_T := ps_in 438 (by decide +kernel) (by decide +kernel)
theorem lk_X5_173 : Cond.methodLink RX5 173 yX3_takeBackInto ∈ ps_T := ps_in 442 (by decide +kernel) (by decide +kernel)
theorem lk_L_82 : Cond.methodLink RL 82 yX5_keep ∈ ps_T := ps_in 446 (by decide +kernel) (by decide +kernel)
theorem lk_X5_176 : Cond.methodLink RX5 176 yX2_copyFrom ∈ ps_T := ps_in 450 (by decide +kernel) (by decide +kernel)
theorem lk_L_86 : Cond.methodLink RL 86 yX5_restore ∈ ps_T := ps_in 451 (by decide +kernel) (by decide +kernel)
theorem lk_L_90 : Cond.methodLink RL 90 yX5_station ∈ ps_T := ps_in 455 (by decide +kernel) (by decide +kernel)
theorem lk_X5_192 : Cond.methodLink RX5 192 yX2_servedAnHourAt ∈ ps_T := ps_in 459 (by decide +kernel) (by decide +kernel)
theorem lk_X5_195 : Cond.methodLink RX5 195 yX4_allArrivals ∈ ps_T := ps_in 460 (by decide +kernel) (by decide +kernel)
theorem lk_X5_198 : Cond.methodLink RX5 198 yX2_hoursForQueueOf ∈ ps_T := ps_in 464 (by decide +kernel) (by decide +kernel)
theorem lk_L_94 : Cond.methodLink RL 94 yX5_papers ∈ ps_T := ps_in 468 (by decide +kernel) (by decide +kernel)
theorem lk_X5_201 : Cond.methodLink RX5 201 yX4_isCounted ∈ ps_T := ps_in 472 (by decide +kernel) (by decide +kernel)
theorem lk_X5_204 : Cond.constant RX5 204 (100000) ∈ ps_T := ps_in 476 (by decide +kernel) (by decide +kernel)
theorem lk_L_98 : Cond.methodLink RL 98 yX5_clerk ∈ ps_T := ps_in 477 (by decide +kernel) (by decide +kernel)
theorem lk_X5_217 : Cond.methodLink RX5 217 yX1_rests ∈ ps_T := ps_in 481 (by decide +kernel) (by decide +kernel)
theorem lk_X5_220 : Cond.methodLink RX5 220 yX2_placeAmongFree ∈ ps_T := ps_in 482 (by decide +kernel) (by decide +kernel)
theorem lk_L_102 : Cond.methodLink RL 102 yX5_arrivals ∈ ps_T := ps_in 486 (by decide +kernel) (by decide +kernel)
theorem lk_L_106 : Cond.methodLink RL 106 yX5_free ∈ ps_T := ps_in 490 (by decide +kernel) (by decide +kernel)
theorem lk_L_110 : Cond.methodLink RL 110 yX5_busiest ∈ ps_T := ps_in 494 (by decide +kernel) (by decide +kernel)
theorem lk_X5_223 : Cond.methodLink RX5 223 yX2_placeByQueue ∈ ps_T := ps_in 498 (by decide +kernel) (by decide +kernel)
theorem lk_L_114 : Cond.methodLink RL 114 yX5_queueIn ∈ ps_T := ps_in 502 (by decide +kernel) (by decide +kernel)
theorem lk_L_118 : Cond.methodLink RL 118 yX5_lacks ∈ ps_T := ps_in 506 (by decide +kernel) (by decide +kernel)
theorem lk_X5_226 : Cond.methodLink RX5 226 Lib.Math.max.name ∈ ps_T := ps_in 510 (by decide +kernel) (by decide +kernel)
theorem lk_L_122 : Cond.methodLink RL 122 yX5_count ∈ ps_T := ps_in 511 (by decide +kernel) (by decide +kernel)
theorem lk_X5_231 : Cond.methodLink RX5 231 yX2_clerksOnDuty ∈ ps_T := ps_in 515 (by decide +kernel) (by decide +kernel)
theorem lk_X2_105 : Cond.methodLink RX2 105 yX1_isOnDuty ∈ ps_T := ps_in 519 (by decide +kernel) (by decide +kernel)
theorem lk_X5_234 : Cond.methodLink RX5 234 yX2_freeClerks ∈ ps_T := ps_in 520 (by decide +kernel) (by decide +kernel)
theorem lk_X5_237 : Cond.methodLink RX5 237 yX5_total ∈ ps_T := ps_in 524 (by decide +kernel) (by decide +kernel)
theorem lk_X5_246 : Cond.methodLink RX5 246 yX4_becomeSumOf ∈ ps_T := ps_in 528 (by decide +kernel) (by decide +kernel)
theorem lk_X5_240 : Cond.methodLink RX5 240 yX2_stationsCounted ∈ ps_T := ps_in 532 (by decide +kernel) (by decide +kernel)
theorem lk_X2_108 : Cond.methodLink RX2 108 yX4_isCounted ∈ ps_T := ps_in 536 (by decide +kernel) (by decide +kernel)
theorem lk_X2_111 : Cond.methodLink RX2 111 yX4_countAgrees ∈ ps_T := ps_in 537 (by decide +kernel) (by decide +kernel)
theorem lk_X5_244 : Cond.methodLink RX5 244 yX2_hoursWorked ∈ ps_T := ps_in 541 (by decide +kernel) (by decide +kernel)
theorem lk_L_10 : Cond.classLink RL 10 RX6 ∈ ps_T := ps_in 545 (by decide +kernel) (by decide +kernel)
theorem lk_L_12 : Cond.methodLink RL 12 yX6_init ∈ ps_T := ps_in 547 (by decide +kernel) (by decide +kernel)
theorem lk_X6_1 : Cond.methodLink RX6 1 objectInit ∈ ps_T := ps_in 550 (by decide +kernel) (by decide +kernel)
theorem lk_X6_7 : Cond.fieldLink RX6 7 "PaperStationsModel" "now" "[I" ∈ ps_T := ps_in 551 (by decide +kernel) (by decide +kernel)
theorem lk_X6_13 : Cond.fieldLink RX6 13 "PaperStationsModel" "past" "[I" ∈ ps_T := ps_in 552 (by decide +kernel) (by decide +kernel)
theorem lk_X6_28 : Cond.fieldLink RX6 28 "PaperStationsModel" "pasts" "I" ∈ ps_T := ps_in 553 (by decide +kernel) (by decide +kernel)
theorem lk_X6_16 : Cond.fieldLink RX6 16 "PaperStationsModel" "kept" "[I" ∈ ps_T := ps_in 554 (by decide +kernel) (by decide +kernel)
theorem lk_X6_110 : Cond.fieldLink RX6 110 "PaperStationsModel" "isKept" "Z" ∈ ps_T := ps_in 555 (by decide +kernel) (by decide +kernel)
theorem lk_X6_19 : Cond.fieldLink RX6 19 "PaperStationsModel" "trial" "[I" ∈ ps_T := ps_in 556 (by decide +kernel) (by decide +kernel)
theorem lk_X6_22 : Cond.fieldLink RX6 22 "PaperStationsModel" "text" "[I" ∈ ps_T := ps_in 557 (by decide +kernel) (by decide +kernel)
theorem lk_X6_98 : Cond.fieldLink RX6 98 "PaperStationsModel" "typed" "I" ∈ ps_T := ps_in 558 (by decide +kernel) (by decide +kernel)
theorem lk_X6_25 : Cond.fieldLink RX6 25 "PaperStationsModel" "numbers" "[I" ∈ ps_T := ps_in 559 (by decide +kernel) (by decide +kernel)
theorem lk_X6_101 : Cond.fieldLink RX6 101 "PaperStationsModel" "numberMany" "I" ∈ ps_T := ps_in 560 (by decide +kernel) (by decide +kernel)
theorem lk_L_17 : Cond.methodLink RL 17 yX6_addStation ∈ ps_T := ps_in 582 (by decide +kernel) (by decide +kernel)
theorem lk_X6_40 : Cond.methodLink RX6 40 yX6_records ∈ ps_T := ps_in 586 (by decide +kernel) (by decide +kernel)
theorem lk_X6_32 : Cond.methodLink RX6 32 yX6_copies ∈ ps_T := ps_in 590 (by decide +kernel) (by decide +kernel)
theorem lk_X6_43 : Cond.methodLink RX6 43 yX6_adds ∈ ps_T := ps_in 593 (by decide +kernel) (by decide +kernel)
theorem lk_L_22 : Cond.methodLink RL 22 yX6_addClerk ∈ ps_T := ps_in 597 (by decide +kernel) (by decide +kernel)
theorem lk_X6_36 : Cond.methodLink RX6 36 yX6_in ∈ ps_T := ps_in 601 (by decide +kernel) (by decide +kernel)
theorem lk_X6_47 : Cond.methodLink RX6 47 yX6_laysClerk ∈ ps_T := ps_in 604 (by decide +kernel) (by decide +kernel)
theorem lk_L_27 : Cond.methodLink RL 27 yX6_setArrivals ∈ ps_T := ps_in 608 (by decide +kernel) (by decide +kernel)
theorem lk_X6_50 : Cond.methodLink RX6 50 yX6_isStation ∈ ps_T := ps_in 612 (by decide +kernel) (by decide +kernel)
theorem lk_X6_54 : Cond.methodLink RX6 54 yX6_of ∈ ps_T := ps_in 616 (by decide +kernel) (by decide +kernel)
theorem lk_L_31 : Cond.methodLink RL 31 yX6_assign ∈ ps_T := ps_in 620 (by decide +kernel) (by decide +kernel)
theorem lk_X6_68 : Cond.methodLink RX6 68 yX6_isClerk ∈ ps_T := ps_in 624 (by decide +kernel) (by decide +kernel)
theorem lk_X6_61 : Cond.methodLink RX6 61 yX6_isFree ∈ ps_T := ps_in 628 (by decide +kernel) (by decide +kernel)
theorem lk_X6_58 : Cond.methodLink RX6 58 yX6_ofClerk ∈ ps_T := ps_in 632 (by decide +kernel) (by decide +kernel)
theorem lk_X6_71 : Cond.methodLink RX6 71 yX6_onDutyAt ∈ ps_T := ps_in 636 (by decide +kernel) (by decide +kernel)
theorem lk_L_36 : Cond.methodLink RL 36 yX6_relieve ∈ ps_T := ps_in 640 (by decide +kernel) (by decide +kernel)
theorem lk_X6_74 : Cond.methodLink RX6 74 yX6_leaves ∈ ps_T := ps_in 644 (by decide +kernel) (by decide +kernel)
theorem lk_L_40 : Cond.methodLink RL 40 yX6_pass ∈ ps_T := ps_in 648 (by decide +kernel) (by decide +kernel)
theorem lk_X6_94 : Cond.methodLink RX6 94 yX6_hoursPass ∈ ps_T := ps_in 652 (by decide +kernel) (by decide +kernel)
theorem lk_X6_90 : Cond.methodLink RX6 90 yX6_hourPasses ∈ ps_T := ps_in 656 (by decide +kernel) (by decide +kernel)
theorem lk_X6_84 : Cond.methodLink RX6 84 yX6_takesTurns ∈ ps_T := ps_in 660 (by decide +kernel) (by decide +kernel)
theorem lk_X6_81 : Cond.methodLink RX6 81 yX6_freeAt ∈ ps_T := ps_in 664 (by decide +kernel) (by decide +kernel)
theorem lk_X6_64 : Cond.methodLink RX6 64 yX6_aheadOf ∈ ps_T := ps_in 668 (by decide +kernel) (by decide +kernel)
theorem lk_X6_87 : Cond.methodLink RX6 87 yX6_serves ∈ ps_T := ps_in 672 (by decide +kernel) (by decide +kernel)
theorem lk_X6_78 : Cond.methodLink RX6 78 yX6_serveAt ∈ ps_T := ps_in 676 (by decide +kernel) (by decide +kernel)
theorem lk_L_44 : Cond.methodLink RL 44 yX6_supply ∈ ps_T := ps_in 680 (by decide +kernel) (by decide +kernel)
theorem lk_L_48 : Cond.methodLink RL 48 yX6_movePapers ∈ ps_T := ps_in 684 (by decide +kernel) (by decide +kernel)
theorem lk_L_52 : Cond.methodLink RL 52 yX6_spoil ∈ ps_T := ps_in 688 (by decide +kernel) (by decide +kernel)
theorem lk_L_56 : Cond.methodLink RL 56 yX6_carryOff ∈ ps_T := ps_in 692 (by decide +kernel) (by decide +kernel)
theorem lk_L_60 : Cond.methodLink RL 60 yX6_find ∈ ps_T := ps_in 696 (by decide +kernel) (by decide +kernel)
theorem lk_L_64 : Cond.methodLink RL 64 yX6_countBox ∈ ps_T := ps_in 700 (by decide +kernel) (by decide +kernel)
theorem lk_X6_97 : Cond.constant RX6 97 (99999) ∈ ps_T := ps_in 704 (by decide +kernel) (by decide +kernel)
theorem lk_L_69 : Cond.methodLink RL 69 yX6_type ∈ ps_T := ps_in 705 (by decide +kernel) (by decide +kernel)
theorem lk_L_73 : Cond.methodLink RL 73 yX6_clearText ∈ ps_T := ps_in 709 (by decide +kernel) (by decide +kernel)
theorem lk_L_77 : Cond.methodLink RL 77 yX6_readArrivals ∈ ps_T := ps_in 713 (by decide +kernel) (by decide +kernel)
theorem lk_X6_107 : Cond.methodLink RX6 107 yX6_faultOf ∈ ps_T := ps_in 717 (by decide +kernel) (by decide +kernel)
theorem lk_X6_104 : Cond.methodLink RX6 104 yX6_signAt ∈ ps_T := ps_in 721 (by decide +kernel) (by decide +kernel)
theorem lk_L_81 : Cond.methodLink RL 81 yX6_undo ∈ ps_T := ps_in 725 (by decide +kernel) (by decide +kernel)
theorem lk_L_85 : Cond.methodLink RL 85 yX6_keep ∈ ps_T := ps_in 729 (by decide +kernel) (by decide +kernel)
theorem lk_L_89 : Cond.methodLink RL 89 yX6_restore ∈ ps_T := ps_in 733 (by decide +kernel) (by decide +kernel)
theorem lk_L_93 : Cond.methodLink RL 93 yX6_station ∈ ps_T := ps_in 737 (by decide +kernel) (by decide +kernel)
theorem lk_X6_114 : Cond.methodLink RX6 114 yX6_arrivalsAll ∈ ps_T := ps_in 741 (by decide +kernel) (by decide +kernel)
theorem lk_X6_117 : Cond.methodLink RX6 117 yX6_toServe ∈ ps_T := ps_in 745 (by decide +kernel) (by decide +kernel)
theorem lk_L_97 : Cond.methodLink RL 97 yX6_papers ∈ ps_T := ps_in 749 (by decide +kernel) (by decide +kernel)
theorem lk_X6_120 : Cond.constant RX6 120 (100000) ∈ ps_T := ps_in 753 (by decide +kernel) (by decide +kernel)
theorem lk_L_101 : Cond.methodLink RL 101 yX6_clerk ∈ ps_T := ps_in 754 (by decide +kernel) (by decide +kernel)
theorem lk_L_105 : Cond.methodLink RL 105 yX6_arrivals ∈ ps_T := ps_in 758 (by decide +kernel) (by decide +kernel)
theorem lk_L_109 : Cond.methodLink RL 109 yX6_free ∈ ps_T := ps_in 762 (by decide +kernel) (by decide +kernel)
theorem lk_L_113 : Cond.methodLink RL 113 yX6_busiest ∈ ps_T := ps_in 766 (by decide +kernel) (by decide +kernel)
theorem lk_L_117 : Cond.methodLink RL 117 yX6_queueIn ∈ ps_T := ps_in 770 (by decide +kernel) (by decide +kernel)
theorem lk_L_121 : Cond.methodLink RL 121 yX6_lacks ∈ ps_T := ps_in 774 (by decide +kernel) (by decide +kernel)
theorem lk_X6_121 : Cond.constant RX6 121 (1000000) ∈ ps_T := ps_in 778 (by decide +kernel) (by decide +kernel)
theorem lk_L_125 : Cond.methodLink RL 125 yX6_count ∈ ps_T := ps_in 779 (by decide +kernel) (by decide +kernel)
theorem lk_X6_122 : Cond.methodLink RX6 122 yX6_overClerks ∈ ps_T := ps_in 783 (by decide +kernel) (by decide +kernel)
theorem lk_X6_125 : Cond.methodLink RX6 125 yX6_overStations ∈ ps_T := ps_in 787 (by decide +kernel) (by decide +kernel)
theorem lk_X6_128 : Cond.methodLink RX6 128 yX6_countedAs ∈ ps_T := ps_in 791 (by decide +kernel) (by decide +kernel)
theorem yw_X0_init : Cond.instanceMethod yX0_init ∈ ps_T ∧ Cond.initialized RX0 ∈ ps_T ∧ Cond.code yX0_init cX0_init 1 none ∈ ps_T := ⟨ps_in 198 (by decide +kernel) (by decide +kernel), ps_in 39 (by decide +kernel) (by decide +kernel), ps_in 199 (by decide +kernel) (by decide +kernel)⟩
theorem yw_X0_fault : Cond.instanceMethod yX0_fault ∈ ps_T ∧ Cond.selects RX0 yX0_fault yX0_fault ∈ ps_T ∧ Cond.initialized RX0 ∈ ps_T ∧ Cond.code yX0_fault cX0_fault 5 (some .int) ∈ ps_T := ⟨ps_in 422 (by decide +kernel) (by decide +kernel), ps_in 423 (by decide +kernel) (by decide +kernel), ps_in 39 (by decide +kernel) (by decide +kernel), ps_in 424 (by decide +kernel) (by decide +kernel)⟩
theorem yw_X0_readNumbers : Cond.instanceMethod yX0_readNumbers ∈ ps_T ∧ Cond.selects RX0 yX0_readNumbers yX0_readNumbers ∈ ps_T ∧ Cond.initialized RX0 ∈ ps_T ∧ Cond.code yX0_readNumbers cX0_readNumbers 3 (some .int) ∈ ps_T := ⟨ps_in 429 (by decide +kernel) (by decide +kernel), ps_in 430 (by decide +kernel) (by decide +kernel), ps_in 39 (by decide +kernel) (by decide +kernel), ps_in 431 (by decide +kernel) (by decide +kernel)⟩
theorem yw_X0_greatestNumber : Cond.instanceMethod yX0_greatestNumber ∈ ps_T ∧ Cond.selects RX0 yX0_greatestNumber yX0_greatestNumber ∈ ps_T ∧ Cond.initialized RX0 ∈ ps_T ∧ Cond.code yX0_greatestNumber cX0_greatestNumber 4 (some .int) ∈ ps_T := ⟨ps_in 433 (by decide +kernel) (by decide +kernel), ps_in 434 (by decide +kernel) (by decide +kernel), ps_in 39 (by decide +kernel) (by decide +kernel), ps_in 435 (by decide +kernel) (by decide +kernel)⟩
theorem yw_X0_isDigit : Cond.static yX0_isDigit ∈ ps_T ∧ Cond.initialized RX0 ∈ ps_T ∧ Cond.code yX0_isDigit cX0_isDigit 1 (some .boolean) ∈ ps_T := ⟨ps_in 426 (by decide +kernel) (by decide +kernel), ps_in 39 (by decide +kernel) (by decide +kernel), ps_in 427 (by decide +kernel) (by decide +kernel)⟩
theorem yw_X1_init : Cond.instanceMethod yX1_init ∈ ps_T ∧ Cond.initialized RX1 ∈ ps_T ∧ Cond.code yX1_init cX1_init 1 none ∈ ps_T := ⟨ps_in 124 (by decide +kernel) (by decide +kernel), ps_in 37 (by decide +kernel) (by decide +kernel), ps_in 125 (by decide +kernel) (by decide +kernel)⟩
theorem yw_X1_copyFrom : Cond.instanceMethod yX1_copyFrom ∈ ps_T ∧ Cond.selects RX1 yX1_copyFrom yX1_copyFrom ∈ ps_T ∧ Cond.initialized RX1 ∈ ps_T ∧ Cond.code yX1_copyFrom cX1_copyFrom 2 none ∈ ps_T := ⟨ps_in 261 (by decide +kernel) (by decide +kernel), ps_in 262 (by decide +kernel) (by decide +kernel), ps_in 37 (by decide +kernel) (by decide +kernel), ps_in 263 (by decide +kernel) (by decide +kernel)⟩
theorem yw_X1_isOnDuty : Cond.instanceMethod yX1_isOnDuty ∈ ps_T ∧ Cond.selects RX1 yX1_isOnDuty yX1_isOnDuty ∈ ps_T ∧ Cond.initialized RX1 ∈ ps_T ∧ Cond.code yX1_isOnDuty cX1_isOnDuty 1 (some .boolean) ∈ ps_T := ⟨ps_in 300 (by decide +kernel) (by decide +kernel), ps_in 301 (by decide +kernel) (by decide +kernel), ps_in 37 (by decide +kernel) (by decide +kernel), ps_in 302 (by decide +kernel) (by decide +kernel)⟩
theorem yw_X1_rests : Cond.instanceMethod yX1_rests ∈ ps_T ∧ Cond.selects RX1 yX1_rests yX1_rests ∈ ps_T ∧ Cond.initialized RX1 ∈ ps_T ∧ Cond.code yX1_rests cX1_rests 1 (some .boolean) ∈ ps_T := ⟨ps_in 304 (by decide +kernel) (by decide +kernel), ps_in 305 (by decide +kernel) (by decide +kernel), ps_in 37 (by decide +kernel) (by decide +kernel), ps_in 306 (by decide +kernel) (by decide +kernel)⟩
theorem yw_X1_isFree : Cond.instanceMethod yX1_isFree ∈ ps_T ∧ Cond.selects RX1 yX1_isFree yX1_isFree ∈ ps_T ∧ Cond.initialized RX1 ∈ ps_T ∧ Cond.code yX1_isFree cX1_isFree 1 (some .boolean) ∈ ps_T := ⟨ps_in 296 (by decide +kernel) (by decide +kernel), ps_in 297 (by decide +kernel) (by decide +kernel), ps_in 37 (by decide +kernel) (by decide +kernel), ps_in 298 (by decide +kernel) (by decide +kernel)⟩
theorem yw_X1_mustLeave : Cond.instanceMethod yX1_mustLeave ∈ ps_T ∧ Cond.selects RX1 yX1_mustLeave yX1_mustLeave ∈ ps_T ∧ Cond.initialized RX1 ∈ ps_T ∧ Cond.code yX1_mustLeave cX1_mustLeave 1 (some .boolean) ∈ ps_T := ⟨ps_in 341 (by decide +kernel) (by decide +kernel), ps_in 342 (by decide +kernel) (by decide +kernel), ps_in 37 (by decide +kernel) (by decide +kernel), ps_in 343 (by decide +kernel) (by decide +kernel)⟩
theorem yw_X1_comeTo : Cond.instanceMethod yX1_comeTo ∈ ps_T ∧ Cond.selects RX1 yX1_comeTo yX1_comeTo ∈ ps_T ∧ Cond.initialized RX1 ∈ ps_T ∧ Cond.code yX1_comeTo cX1_comeTo 2 none ∈ ps_T := ⟨ps_in 308 (by decide +kernel) (by decide +kernel), ps_in 309 (by decide +kernel) (by decide +kernel), ps_in 37 (by decide +kernel) (by decide +kernel), ps_in 310 (by decide +kernel) (by decide +kernel)⟩
theorem yw_X1_leaveDuty : Cond.instanceMethod yX1_leaveDuty ∈ ps_T ∧ Cond.selects RX1 yX1_leaveDuty yX1_leaveDuty ∈ ps_T ∧ Cond.initialized RX1 ∈ ps_T ∧ Cond.code yX1_leaveDuty cX1_leaveDuty 2 none ∈ ps_T := ⟨ps_in 321 (by decide +kernel) (by decide +kernel), ps_in 322 (by decide +kernel) (by decide +kernel), ps_in 37 (by decide +kernel) (by decide +kernel), ps_in 323 (by decide +kernel) (by decide +kernel)⟩
theorem yw_X1_endHour : Cond.instanceMethod yX1_endHour ∈ ps_T ∧ Cond.selects RX1 yX1_endHour yX1_endHour ∈ ps_T ∧ Cond.initialized RX1 ∈ ps_T ∧ Cond.code yX1_endHour cX1_endHour 1 none ∈ ps_T := ⟨ps_in 378 (by decide +kernel) (by decide +kernel), ps_in 379 (by decide +kernel) (by decide +kernel), ps_in 37 (by decide +kernel) (by decide +kernel), ps_in 380 (by decide +kernel) (by decide +kernel)⟩
theorem yw_X2_init : Cond.instanceMethod yX2_init ∈ ps_T ∧ Cond.initialized RX2 ∈ ps_T ∧ Cond.code yX2_init cX2_init 2 none ∈ ps_T := ⟨ps_in 54 (by decide +kernel) (by decide +kernel), ps_in 35 (by decide +kernel) (by decide +kernel), ps_in 55 (by decide +kernel) (by decide +kernel)⟩
theorem yw_X2_copyFrom : Cond.instanceMethod yX2_copyFrom ∈ ps_T ∧ Cond.selects RX2 yX2_copyFrom yX2_copyFrom ∈ ps_T ∧ Cond.initialized RX2 ∈ ps_T ∧ Cond.code yX2_copyFrom cX2_copyFrom 3 none ∈ ps_T := ⟨ps_in 250 (by decide +kernel) (by decide +kernel), ps_in 251 (by decide +kernel) (by decide +kernel), ps_in 35 (by decide +kernel) (by decide +kernel), ps_in 252 (by decide +kernel) (by decide +kernel)⟩
theorem yw_X2_hasStation : Cond.instanceMethod yX2_hasStation ∈ ps_T ∧ Cond.selects RX2 yX2_hasStation yX2_hasStation ∈ ps_T ∧ Cond.initialized RX2 ∈ ps_T ∧ Cond.code yX2_hasStation cX2_hasStation 2 (some .boolean) ∈ ps_T := ⟨ps_in 280 (by decide +kernel) (by decide +kernel), ps_in 281 (by decide +kernel) (by decide +kernel), ps_in 35 (by decide +kernel) (by decide +kernel), ps_in 282 (by decide +kernel) (by decide +kernel)⟩
theorem yw_X2_hasClerk : Cond.instanceMethod yX2_hasClerk ∈ ps_T ∧ Cond.selects RX2 yX2_hasClerk yX2_hasClerk ∈ ps_T ∧ Cond.initialized RX2 ∈ ps_T ∧ Cond.code yX2_hasClerk cX2_hasClerk 2 (some .boolean) ∈ ps_T := ⟨ps_in 292 (by decide +kernel) (by decide +kernel), ps_in 293 (by decide +kernel) (by decide +kernel), ps_in 35 (by decide +kernel) (by decide +kernel), ps_in 294 (by decide +kernel) (by decide +kernel)⟩
theorem yw_X2_engageClerk : Cond.instanceMethod yX2_engageClerk ∈ ps_T ∧ Cond.selects RX2 yX2_engageClerk yX2_engageClerk ∈ ps_T ∧ Cond.initialized RX2 ∈ ps_T ∧ Cond.code yX2_engageClerk cX2_engageClerk 3 (some .int) ∈ ps_T := ⟨ps_in 272 (by decide +kernel) (by decide +kernel), ps_in 273 (by decide +kernel) (by decide +kernel), ps_in 35 (by decide +kernel) (by decide +kernel), ps_in 274 (by decide +kernel) (by decide +kernel)⟩
theorem yw_X2_letHoursPass : Cond.instanceMethod yX2_letHoursPass ∈ ps_T ∧ Cond.selects RX2 yX2_letHoursPass yX2_letHoursPass ∈ ps_T ∧ Cond.initialized RX2 ∈ ps_T ∧ Cond.code yX2_letHoursPass cX2_letHoursPass 4 (some .int) ∈ ps_T := ⟨ps_in 329 (by decide +kernel) (by decide +kernel), ps_in 330 (by decide +kernel) (by decide +kernel), ps_in 35 (by decide +kernel) (by decide +kernel), ps_in 331 (by decide +kernel) (by decide +kernel)⟩
theorem yw_X2_letArrive : Cond.instanceMethod yX2_letArrive ∈ ps_T ∧ Cond.selects RX2 yX2_letArrive yX2_letArrive ∈ ps_T ∧ Cond.initialized RX2 ∈ ps_T ∧ Cond.code yX2_letArrive cX2_letArrive 2 none ∈ ps_T := ⟨ps_in 334 (by decide +kernel) (by decide +kernel), ps_in 2 (by decide +kernel) (by decide +kernel), ps_in 35 (by decide +kernel) (by decide +kernel), ps_in 335 (by decide +kernel) (by decide +kernel)⟩
theorem yw_X2_changeClerks : Cond.instanceMethod yX2_changeClerks ∈ ps_T ∧ Cond.selects RX2 yX2_changeClerks yX2_changeClerks ∈ ps_T ∧ Cond.initialized RX2 ∈ ps_T ∧ Cond.code yX2_changeClerks cX2_changeClerks 4 none ∈ ps_T := ⟨ps_in 338 (by decide +kernel) (by decide +kernel), ps_in 3 (by decide +kernel) (by decide +kernel), ps_in 35 (by decide +kernel) (by decide +kernel), ps_in 339 (by decide +kernel) (by decide +kernel)⟩
theorem yw_X2_serveQueues : Cond.instanceMethod yX2_serveQueues ∈ ps_T ∧ Cond.selects RX2 yX2_serveQueues yX2_serveQueues ∈ ps_T ∧ Cond.initialized RX2 ∈ ps_T ∧ Cond.code yX2_serveQueues cX2_serveQueues 3 (some .int) ∈ ps_T := ⟨ps_in 357 (by decide +kernel) (by decide +kernel), ps_in 6 (by decide +kernel) (by decide +kernel), ps_in 35 (by decide +kernel) (by decide +kernel), ps_in 358 (by decide +kernel) (by decide +kernel)⟩
theorem yw_X2_endHourOfClerks : Cond.instanceMethod yX2_endHourOfClerks ∈ ps_T ∧ Cond.selects RX2 yX2_endHourOfClerks yX2_endHourOfClerks ∈ ps_T ∧ Cond.initialized RX2 ∈ ps_T ∧ Cond.code yX2_endHourOfClerks cX2_endHourOfClerks 2 none ∈ ps_T := ⟨ps_in 375 (by decide +kernel) (by decide +kernel), ps_in 7 (by decide +kernel) (by decide +kernel), ps_in 35 (by decide +kernel) (by decide +kernel), ps_in 376 (by decide +kernel) (by decide +kernel)⟩
theorem yw_X2_firstFree : Cond.instanceMethod yX2_firstFree ∈ ps_T ∧ Cond.selects RX2 yX2_firstFree yX2_firstFree ∈ ps_T ∧ Cond.initialized RX2 ∈ ps_T ∧ Cond.code yX2_firstFree cX2_firstFree 3 (some .int) ∈ ps_T := ⟨ps_in 347 (by decide +kernel) (by decide +kernel), ps_in 4 (by decide +kernel) (by decide +kernel), ps_in 35 (by decide +kernel) (by decide +kernel), ps_in 348 (by decide +kernel) (by decide +kernel)⟩
theorem yw_X2_comesBefore : Cond.instanceMethod yX2_comesBefore ∈ ps_T ∧ Cond.selects RX2 yX2_comesBefore yX2_comesBefore ∈ ps_T ∧ Cond.initialized RX2 ∈ ps_T ∧ Cond.code yX2_comesBefore cX2_comesBefore 4 (some .boolean) ∈ ps_T := ⟨ps_in 352 (by decide +kernel) (by decide +kernel), ps_in 5 (by decide +kernel) (by decide +kernel), ps_in 35 (by decide +kernel) (by decide +kernel), ps_in 353 (by decide +kernel) (by decide +kernel)⟩
theorem yw_X2_placeAmongFree : Cond.instanceMethod yX2_placeAmongFree ∈ ps_T ∧ Cond.selects RX2 yX2_placeAmongFree yX2_placeAmongFree ∈ ps_T ∧ Cond.initialized RX2 ∈ ps_T ∧ Cond.code yX2_placeAmongFree cX2_placeAmongFree 4 (some .int) ∈ ps_T := ⟨ps_in 483 (by decide +kernel) (by decide +kernel), ps_in 484 (by decide +kernel) (by decide +kernel), ps_in 35 (by decide +kernel) (by decide +kernel), ps_in 485 (by decide +kernel) (by decide +kernel)⟩
theorem yw_X2_placeByQueue : Cond.instanceMethod yX2_placeByQueue ∈ ps_T ∧ Cond.selects RX2 yX2_placeByQueue yX2_placeByQueue ∈ ps_T ∧ Cond.initialized RX2 ∈ ps_T ∧ Cond.code yX2_placeByQueue cX2_placeByQueue 5 (some .int) ∈ ps_T := ⟨ps_in 499 (by decide +kernel) (by decide +kernel), ps_in 500 (by decide +kernel) (by decide +kernel), ps_in 35 (by decide +kernel) (by decide +kernel), ps_in 501 (by decide +kernel) (by decide +kernel)⟩
theorem yw_X2_clerksAt : Cond.instanceMethod yX2_clerksAt ∈ ps_T ∧ Cond.selects RX2 yX2_clerksAt yX2_clerksAt ∈ ps_T ∧ Cond.initialized RX2 ∈ ps_T ∧ Cond.code yX2_clerksAt cX2_clerksAt 4 (some .int) ∈ ps_T := ⟨ps_in 312 (by decide +kernel) (by decide +kernel), ps_in 313 (by decide +kernel) (by decide +kernel), ps_in 35 (by decide +kernel) (by decide +kernel), ps_in 314 (by decide +kernel) (by decide +kernel)⟩
theorem yw_X2_servedAnHourAt : Cond.instanceMethod yX2_servedAnHourAt ∈ ps_T ∧ Cond.selects RX2 yX2_servedAnHourAt yX2_servedAnHourAt ∈ ps_T ∧ Cond.initialized RX2 ∈ ps_T ∧ Cond.code yX2_servedAnHourAt cX2_servedAnHourAt 4 (some .int) ∈ ps_T := ⟨ps_in 360 (by decide +kernel) (by decide +kernel), ps_in 361 (by decide +kernel) (by decide +kernel), ps_in 35 (by decide +kernel) (by decide +kernel), ps_in 362 (by decide +kernel) (by decide +kernel)⟩
theorem yw_X2_hoursForQueueOf : Cond.instanceMethod yX2_hoursForQueueOf ∈ ps_T ∧ Cond.selects RX2 yX2_hoursForQueueOf yX2_hoursForQueueOf ∈ ps_T ∧ Cond.initialized RX2 ∈ ps_T ∧ Cond.code yX2_hoursForQueueOf cX2_hoursForQueueOf 4 (some .int) ∈ ps_T := ⟨ps_in 465 (by decide +kernel) (by decide +kernel), ps_in 466 (by decide +kernel) (by decide +kernel), ps_in 35 (by decide +kernel) (by decide +kernel), ps_in 467 (by decide +kernel) (by decide +kernel)⟩
theorem yw_X2_clerksOnDuty : Cond.instanceMethod yX2_clerksOnDuty ∈ ps_T ∧ Cond.selects RX2 yX2_clerksOnDuty yX2_clerksOnDuty ∈ ps_T ∧ Cond.initialized RX2 ∈ ps_T ∧ Cond.code yX2_clerksOnDuty cX2_clerksOnDuty 3 (some .int) ∈ ps_T := ⟨ps_in 516 (by decide +kernel) (by decide +kernel), ps_in 517 (by decide +kernel) (by decide +kernel), ps_in 35 (by decide +kernel) (by decide +kernel), ps_in 518 (by decide +kernel) (by decide +kernel)⟩
theorem yw_X2_freeClerks : Cond.instanceMethod yX2_freeClerks ∈ ps_T ∧ Cond.selects RX2 yX2_freeClerks yX2_freeClerks ∈ ps_T ∧ Cond.initialized RX2 ∈ ps_T ∧ Cond.code yX2_freeClerks cX2_freeClerks 3 (some .int) ∈ ps_T := ⟨ps_in 521 (by decide +kernel) (by decide +kernel), ps_in 522 (by decide +kernel) (by decide +kernel), ps_in 35 (by decide +kernel) (by decide +kernel), ps_in 523 (by decide +kernel) (by decide +kernel)⟩
theorem yw_X2_hoursWorked : Cond.instanceMethod yX2_hoursWorked ∈ ps_T ∧ Cond.selects RX2 yX2_hoursWorked yX2_hoursWorked ∈ ps_T ∧ Cond.initialized RX2 ∈ ps_T ∧ Cond.code yX2_hoursWorked cX2_hoursWorked 3 (some .int) ∈ ps_T := ⟨ps_in 542 (by decide +kernel) (by decide +kernel), ps_in 543 (by decide +kernel) (by decide +kernel), ps_in 35 (by decide +kernel) (by decide +kernel), ps_in 544 (by decide +kernel) (by decide +kernel)⟩
theorem yw_X2_stationsCounted : Cond.instanceMethod yX2_stationsCounted ∈ ps_T ∧ Cond.selects RX2 yX2_stationsCounted yX2_stationsCounted ∈ ps_T ∧ Cond.initialized RX2 ∈ ps_T ∧ Cond.code yX2_stationsCounted cX2_stationsCounted 4 (some .int) ∈ ps_T := ⟨ps_in 533 (by decide +kernel) (by decide +kernel), ps_in 534 (by decide +kernel) (by decide +kernel), ps_in 35 (by decide +kernel) (by decide +kernel), ps_in 535 (by decide +kernel) (by decide +kernel)⟩
theorem yw_X3_init : Cond.instanceMethod yX3_init ∈ ps_T ∧ Cond.initialized RX3 ∈ ps_T ∧ Cond.code yX3_init cX3_init 2 none ∈ ps_T := ⟨ps_in 181 (by decide +kernel) (by decide +kernel), ps_in 38 (by decide +kernel) (by decide +kernel), ps_in 182 (by decide +kernel) (by decide +kernel)⟩
theorem yw_X3_remember : Cond.instanceMethod yX3_remember ∈ ps_T ∧ Cond.selects RX3 yX3_remember yX3_remember ∈ ps_T ∧ Cond.initialized RX3 ∈ ps_T ∧ Cond.code yX3_remember cX3_remember 2 none ∈ ps_T := ⟨ps_in 242 (by decide +kernel) (by decide +kernel), ps_in 243 (by decide +kernel) (by decide +kernel), ps_in 38 (by decide +kernel) (by decide +kernel), ps_in 244 (by decide +kernel) (by decide +kernel)⟩
theorem yw_X3_dropOldest : Cond.instanceMethod yX3_dropOldest ∈ ps_T ∧ Cond.selects RX3 yX3_dropOldest yX3_dropOldest ∈ ps_T ∧ Cond.initialized RX3 ∈ ps_T ∧ Cond.code yX3_dropOldest cX3_dropOldest 3 none ∈ ps_T := ⟨ps_in 247 (by decide +kernel) (by decide +kernel), ps_in 0 (by decide +kernel) (by decide +kernel), ps_in 38 (by decide +kernel) (by decide +kernel), ps_in 248 (by decide +kernel) (by decide +kernel)⟩
theorem yw_X3_takeBackInto : Cond.instanceMethod yX3_takeBackInto ∈ ps_T ∧ Cond.selects RX3 yX3_takeBackInto yX3_takeBackInto ∈ ps_T ∧ Cond.initialized RX3 ∈ ps_T ∧ Cond.code yX3_takeBackInto cX3_takeBackInto 2 none ∈ ps_T := ⟨ps_in 443 (by decide +kernel) (by decide +kernel), ps_in 444 (by decide +kernel) (by decide +kernel), ps_in 38 (by decide +kernel) (by decide +kernel), ps_in 445 (by decide +kernel) (by decide +kernel)⟩
theorem yw_X4_init : Cond.instanceMethod yX4_init ∈ ps_T ∧ Cond.initialized RX4 ∈ ps_T ∧ Cond.code yX4_init cX4_init 1 none ∈ ps_T := ⟨ps_in 61 (by decide +kernel) (by decide +kernel), ps_in 36 (by decide +kernel) (by decide +kernel), ps_in 62 (by decide +kernel) (by decide +kernel)⟩
theorem yw_X4_copyFrom : Cond.instanceMethod yX4_copyFrom ∈ ps_T ∧ Cond.selects RX4 yX4_copyFrom yX4_copyFrom ∈ ps_T ∧ Cond.initialized RX4 ∈ ps_T ∧ Cond.code yX4_copyFrom cX4_copyFrom 2 none ∈ ps_T := ⟨ps_in 254 (by decide +kernel) (by decide +kernel), ps_in 255 (by decide +kernel) (by decide +kernel), ps_in 36 (by decide +kernel) (by decide +kernel), ps_in 256 (by decide +kernel) (by decide +kernel)⟩
theorem yw_X4_becomeSumOf : Cond.instanceMethod yX4_becomeSumOf ∈ ps_T ∧ Cond.selects RX4 yX4_becomeSumOf yX4_becomeSumOf ∈ ps_T ∧ Cond.initialized RX4 ∈ ps_T ∧ Cond.code yX4_becomeSumOf cX4_becomeSumOf 4 none ∈ ps_T := ⟨ps_in 529 (by decide +kernel) (by decide +kernel), ps_in 530 (by decide +kernel) (by decide +kernel), ps_in 36 (by decide +kernel) (by decide +kernel), ps_in 531 (by decide +kernel) (by decide +kernel)⟩
theorem yw_X4_serveQueue : Cond.instanceMethod yX4_serveQueue ∈ ps_T ∧ Cond.selects RX4 yX4_serveQueue yX4_serveQueue ∈ ps_T ∧ Cond.initialized RX4 ∈ ps_T ∧ Cond.code yX4_serveQueue cX4_serveQueue 3 (some .int) ∈ ps_T := ⟨ps_in 364 (by decide +kernel) (by decide +kernel), ps_in 365 (by decide +kernel) (by decide +kernel), ps_in 36 (by decide +kernel) (by decide +kernel), ps_in 366 (by decide +kernel) (by decide +kernel)⟩
theorem yw_X4_allArrivals : Cond.instanceMethod yX4_allArrivals ∈ ps_T ∧ Cond.selects RX4 yX4_allArrivals yX4_allArrivals ∈ ps_T ∧ Cond.initialized RX4 ∈ ps_T ∧ Cond.code yX4_allArrivals cX4_allArrivals 3 (some .int) ∈ ps_T := ⟨ps_in 461 (by decide +kernel) (by decide +kernel), ps_in 462 (by decide +kernel) (by decide +kernel), ps_in 36 (by decide +kernel) (by decide +kernel), ps_in 463 (by decide +kernel) (by decide +kernel)⟩
theorem yw_X4_isCounted : Cond.instanceMethod yX4_isCounted ∈ ps_T ∧ Cond.selects RX4 yX4_isCounted yX4_isCounted ∈ ps_T ∧ Cond.initialized RX4 ∈ ps_T ∧ Cond.code yX4_isCounted cX4_isCounted 1 (some .boolean) ∈ ps_T := ⟨ps_in 473 (by decide +kernel) (by decide +kernel), ps_in 474 (by decide +kernel) (by decide +kernel), ps_in 36 (by decide +kernel) (by decide +kernel), ps_in 475 (by decide +kernel) (by decide +kernel)⟩
theorem yw_X4_countAgrees : Cond.instanceMethod yX4_countAgrees ∈ ps_T ∧ Cond.selects RX4 yX4_countAgrees yX4_countAgrees ∈ ps_T ∧ Cond.initialized RX4 ∈ ps_T ∧ Cond.code yX4_countAgrees cX4_countAgrees 1 (some .boolean) ∈ ps_T := ⟨ps_in 538 (by decide +kernel) (by decide +kernel), ps_in 539 (by decide +kernel) (by decide +kernel), ps_in 36 (by decide +kernel) (by decide +kernel), ps_in 540 (by decide +kernel) (by decide +kernel)⟩
theorem yw_X5_init : Cond.instanceMethod yX5_init ∈ ps_T ∧ Cond.initialized RX5 ∈ ps_T ∧ Cond.code yX5_init cX5_init 1 none ∈ ps_T := ⟨ps_in 46 (by decide +kernel) (by decide +kernel), ps_in 34 (by decide +kernel) (by decide +kernel), ps_in 47 (by decide +kernel) (by decide +kernel)⟩
theorem yw_X5_addStation : Cond.instanceMethod yX5_addStation ∈ ps_T ∧ Cond.selects RX5 yX5_addStation yX5_addStation ∈ ps_T ∧ Cond.initialized RX5 ∈ ps_T ∧ Cond.code yX5_addStation cX5_addStation 1 (some .int) ∈ ps_T := ⟨ps_in 238 (by decide +kernel) (by decide +kernel), ps_in 239 (by decide +kernel) (by decide +kernel), ps_in 34 (by decide +kernel) (by decide +kernel), ps_in 240 (by decide +kernel) (by decide +kernel)⟩
theorem yw_X5_addClerk : Cond.instanceMethod yX5_addClerk ∈ ps_T ∧ Cond.selects RX5 yX5_addClerk yX5_addClerk ∈ ps_T ∧ Cond.initialized RX5 ∈ ps_T ∧ Cond.code yX5_addClerk cX5_addClerk 3 (some .int) ∈ ps_T := ⟨ps_in 265 (by decide +kernel) (by decide +kernel), ps_in 266 (by decide +kernel) (by decide +kernel), ps_in 34 (by decide +kernel) (by decide +kernel), ps_in 267 (by decide +kernel) (by decide +kernel)⟩
theorem yw_X5_setArrivals : Cond.instanceMethod yX5_setArrivals ∈ ps_T ∧ Cond.selects RX5 yX5_setArrivals yX5_setArrivals ∈ ps_T ∧ Cond.initialized RX5 ∈ ps_T ∧ Cond.code yX5_setArrivals cX5_setArrivals 6 (some .int) ∈ ps_T := ⟨ps_in 276 (by decide +kernel) (by decide +kernel), ps_in 277 (by decide +kernel) (by decide +kernel), ps_in 34 (by decide +kernel) (by decide +kernel), ps_in 278 (by decide +kernel) (by decide +kernel)⟩
theorem yw_X5_assign : Cond.instanceMethod yX5_assign ∈ ps_T ∧ Cond.selects RX5 yX5_assign yX5_assign ∈ ps_T ∧ Cond.initialized RX5 ∈ ps_T ∧ Cond.code yX5_assign cX5_assign 3 (some .int) ∈ ps_T := ⟨ps_in 288 (by decide +kernel) (by decide +kernel), ps_in 289 (by decide +kernel) (by decide +kernel), ps_in 34 (by decide +kernel) (by decide +kernel), ps_in 290 (by decide +kernel) (by decide +kernel)⟩
theorem yw_X5_relieve : Cond.instanceMethod yX5_relieve ∈ ps_T ∧ Cond.selects RX5 yX5_relieve yX5_relieve ∈ ps_T ∧ Cond.initialized RX5 ∈ ps_T ∧ Cond.code yX5_relieve cX5_relieve 3 (some .int) ∈ ps_T := ⟨ps_in 316 (by decide +kernel) (by decide +kernel), ps_in 317 (by decide +kernel) (by decide +kernel), ps_in 34 (by decide +kernel) (by decide +kernel), ps_in 318 (by decide +kernel) (by decide +kernel)⟩
theorem yw_X5_pass : Cond.instanceMethod yX5_pass ∈ ps_T ∧ Cond.selects RX5 yX5_pass yX5_pass ∈ ps_T ∧ Cond.initialized RX5 ∈ ps_T ∧ Cond.code yX5_pass cX5_pass 2 (some .int) ∈ ps_T := ⟨ps_in 325 (by decide +kernel) (by decide +kernel), ps_in 326 (by decide +kernel) (by decide +kernel), ps_in 34 (by decide +kernel) (by decide +kernel), ps_in 327 (by decide +kernel) (by decide +kernel)⟩
theorem yw_X5_supply : Cond.instanceMethod yX5_supply ∈ ps_T ∧ Cond.selects RX5 yX5_supply yX5_supply ∈ ps_T ∧ Cond.initialized RX5 ∈ ps_T ∧ Cond.code yX5_supply cX5_supply 4 (some .int) ∈ ps_T := ⟨ps_in 382 (by decide +kernel) (by decide +kernel), ps_in 383 (by decide +kernel) (by decide +kernel), ps_in 34 (by decide +kernel) (by decide +kernel), ps_in 384 (by decide +kernel) (by decide +kernel)⟩
theorem yw_X5_movePapers : Cond.instanceMethod yX5_movePapers ∈ ps_T ∧ Cond.selects RX5 yX5_movePapers yX5_movePapers ∈ ps_T ∧ Cond.initialized RX5 ∈ ps_T ∧ Cond.code yX5_movePapers cX5_movePapers 6 (some .int) ∈ ps_T := ⟨ps_in 389 (by decide +kernel) (by decide +kernel), ps_in 390 (by decide +kernel) (by decide +kernel), ps_in 34 (by decide +kernel) (by decide +kernel), ps_in 391 (by decide +kernel) (by decide +kernel)⟩
theorem yw_X5_spoil : Cond.instanceMethod yX5_spoil ∈ ps_T ∧ Cond.selects RX5 yX5_spoil yX5_spoil ∈ ps_T ∧ Cond.initialized RX5 ∈ ps_T ∧ Cond.code yX5_spoil cX5_spoil 4 (some .int) ∈ ps_T := ⟨ps_in 393 (by decide +kernel) (by decide +kernel), ps_in 394 (by decide +kernel) (by decide +kernel), ps_in 34 (by decide +kernel) (by decide +kernel), ps_in 395 (by decide +kernel) (by decide +kernel)⟩
theorem yw_X5_carryOff : Cond.instanceMethod yX5_carryOff ∈ ps_T ∧ Cond.selects RX5 yX5_carryOff yX5_carryOff ∈ ps_T ∧ Cond.initialized RX5 ∈ ps_T ∧ Cond.code yX5_carryOff cX5_carryOff 4 (some .int) ∈ ps_T := ⟨ps_in 397 (by decide +kernel) (by decide +kernel), ps_in 398 (by decide +kernel) (by decide +kernel), ps_in 34 (by decide +kernel) (by decide +kernel), ps_in 399 (by decide +kernel) (by decide +kernel)⟩
theorem yw_X5_find : Cond.instanceMethod yX5_find ∈ ps_T ∧ Cond.selects RX5 yX5_find yX5_find ∈ ps_T ∧ Cond.initialized RX5 ∈ ps_T ∧ Cond.code yX5_find cX5_find 4 (some .int) ∈ ps_T := ⟨ps_in 401 (by decide +kernel) (by decide +kernel), ps_in 402 (by decide +kernel) (by decide +kernel), ps_in 34 (by decide +kernel) (by decide +kernel), ps_in 403 (by decide +kernel) (by decide +kernel)⟩
theorem yw_X5_countBox : Cond.instanceMethod yX5_countBox ∈ ps_T ∧ Cond.selects RX5 yX5_countBox yX5_countBox ∈ ps_T ∧ Cond.initialized RX5 ∈ ps_T ∧ Cond.code yX5_countBox cX5_countBox 4 (some .int) ∈ ps_T := ⟨ps_in 405 (by decide +kernel) (by decide +kernel), ps_in 406 (by decide +kernel) (by decide +kernel), ps_in 34 (by decide +kernel) (by decide +kernel), ps_in 407 (by decide +kernel) (by decide +kernel)⟩
theorem yw_X5_type : Cond.instanceMethod yX5_type ∈ ps_T ∧ Cond.selects RX5 yX5_type yX5_type ∈ ps_T ∧ Cond.initialized RX5 ∈ ps_T ∧ Cond.code yX5_type cX5_type 2 (some .int) ∈ ps_T := ⟨ps_in 410 (by decide +kernel) (by decide +kernel), ps_in 411 (by decide +kernel) (by decide +kernel), ps_in 34 (by decide +kernel) (by decide +kernel), ps_in 412 (by decide +kernel) (by decide +kernel)⟩
theorem yw_X5_clearText : Cond.instanceMethod yX5_clearText ∈ ps_T ∧ Cond.selects RX5 yX5_clearText yX5_clearText ∈ ps_T ∧ Cond.initialized RX5 ∈ ps_T ∧ Cond.code yX5_clearText cX5_clearText 2 (some .int) ∈ ps_T := ⟨ps_in 414 (by decide +kernel) (by decide +kernel), ps_in 415 (by decide +kernel) (by decide +kernel), ps_in 34 (by decide +kernel) (by decide +kernel), ps_in 416 (by decide +kernel) (by decide +kernel)⟩
theorem yw_X5_readArrivals : Cond.instanceMethod yX5_readArrivals ∈ ps_T ∧ Cond.selects RX5 yX5_readArrivals yX5_readArrivals ∈ ps_T ∧ Cond.initialized RX5 ∈ ps_T ∧ Cond.code yX5_readArrivals cX5_readArrivals 5 (some .int) ∈ ps_T := ⟨ps_in 418 (by decide +kernel) (by decide +kernel), ps_in 419 (by decide +kernel) (by decide +kernel), ps_in 34 (by decide +kernel) (by decide +kernel), ps_in 420 (by decide +kernel) (by decide +kernel)⟩
theorem yw_X5_undo : Cond.instanceMethod yX5_undo ∈ ps_T ∧ Cond.selects RX5 yX5_undo yX5_undo ∈ ps_T ∧ Cond.initialized RX5 ∈ ps_T ∧ Cond.code yX5_undo cX5_undo 1 (some .int) ∈ ps_T := ⟨ps_in 439 (by decide +kernel) (by decide +kernel), ps_in 440 (by decide +kernel) (by decide +kernel), ps_in 34 (by decide +kernel) (by decide +kernel), ps_in 441 (by decide +kernel) (by decide +kernel)⟩
theorem yw_X5_keep : Cond.instanceMethod yX5_keep ∈ ps_T ∧ Cond.selects RX5 yX5_keep yX5_keep ∈ ps_T ∧ Cond.initialized RX5 ∈ ps_T ∧ Cond.code yX5_keep cX5_keep 1 (some .int) ∈ ps_T := ⟨ps_in 447 (by decide +kernel) (by decide +kernel), ps_in 448 (by decide +kernel) (by decide +kernel), ps_in 34 (by decide +kernel) (by decide +kernel), ps_in 449 (by decide +kernel) (by decide +kernel)⟩
theorem yw_X5_restore : Cond.instanceMethod yX5_restore ∈ ps_T ∧ Cond.selects RX5 yX5_restore yX5_restore ∈ ps_T ∧ Cond.initialized RX5 ∈ ps_T ∧ Cond.code yX5_restore cX5_restore 1 (some .int) ∈ ps_T := ⟨ps_in 452 (by decide +kernel) (by decide +kernel), ps_in 453 (by decide +kernel) (by decide +kernel), ps_in 34 (by decide +kernel) (by decide +kernel), ps_in 454 (by decide +kernel) (by decide +kernel)⟩
theorem yw_X5_station : Cond.instanceMethod yX5_station ∈ ps_T ∧ Cond.selects RX5 yX5_station yX5_station ∈ ps_T ∧ Cond.initialized RX5 ∈ ps_T ∧ Cond.code yX5_station cX5_station 4 (some .int) ∈ ps_T := ⟨ps_in 456 (by decide +kernel) (by decide +kernel), ps_in 457 (by decide +kernel) (by decide +kernel), ps_in 34 (by decide +kernel) (by decide +kernel), ps_in 458 (by decide +kernel) (by decide +kernel)⟩
theorem yw_X5_papers : Cond.instanceMethod yX5_papers ∈ ps_T ∧ Cond.selects RX5 yX5_papers yX5_papers ∈ ps_T ∧ Cond.initialized RX5 ∈ ps_T ∧ Cond.code yX5_papers cX5_papers 4 (some .int) ∈ ps_T := ⟨ps_in 469 (by decide +kernel) (by decide +kernel), ps_in 470 (by decide +kernel) (by decide +kernel), ps_in 34 (by decide +kernel) (by decide +kernel), ps_in 471 (by decide +kernel) (by decide +kernel)⟩
theorem yw_X5_clerk : Cond.instanceMethod yX5_clerk ∈ ps_T ∧ Cond.selects RX5 yX5_clerk yX5_clerk ∈ ps_T ∧ Cond.initialized RX5 ∈ ps_T ∧ Cond.code yX5_clerk cX5_clerk 4 (some .int) ∈ ps_T := ⟨ps_in 478 (by decide +kernel) (by decide +kernel), ps_in 479 (by decide +kernel) (by decide +kernel), ps_in 34 (by decide +kernel) (by decide +kernel), ps_in 480 (by decide +kernel) (by decide +kernel)⟩
theorem yw_X5_arrivals : Cond.instanceMethod yX5_arrivals ∈ ps_T ∧ Cond.selects RX5 yX5_arrivals yX5_arrivals ∈ ps_T ∧ Cond.initialized RX5 ∈ ps_T ∧ Cond.code yX5_arrivals cX5_arrivals 3 (some .int) ∈ ps_T := ⟨ps_in 487 (by decide +kernel) (by decide +kernel), ps_in 488 (by decide +kernel) (by decide +kernel), ps_in 34 (by decide +kernel) (by decide +kernel), ps_in 489 (by decide +kernel) (by decide +kernel)⟩
theorem yw_X5_free : Cond.instanceMethod yX5_free ∈ ps_T ∧ Cond.selects RX5 yX5_free yX5_free ∈ ps_T ∧ Cond.initialized RX5 ∈ ps_T ∧ Cond.code yX5_free cX5_free 3 (some .int) ∈ ps_T := ⟨ps_in 491 (by decide +kernel) (by decide +kernel), ps_in 492 (by decide +kernel) (by decide +kernel), ps_in 34 (by decide +kernel) (by decide +kernel), ps_in 493 (by decide +kernel) (by decide +kernel)⟩
theorem yw_X5_busiest : Cond.instanceMethod yX5_busiest ∈ ps_T ∧ Cond.selects RX5 yX5_busiest yX5_busiest ∈ ps_T ∧ Cond.initialized RX5 ∈ ps_T ∧ Cond.code yX5_busiest cX5_busiest 3 (some .int) ∈ ps_T := ⟨ps_in 495 (by decide +kernel) (by decide +kernel), ps_in 496 (by decide +kernel) (by decide +kernel), ps_in 34 (by decide +kernel) (by decide +kernel), ps_in 497 (by decide +kernel) (by decide +kernel)⟩
theorem yw_X5_queueIn : Cond.instanceMethod yX5_queueIn ∈ ps_T ∧ Cond.selects RX5 yX5_queueIn yX5_queueIn ∈ ps_T ∧ Cond.initialized RX5 ∈ ps_T ∧ Cond.code yX5_queueIn cX5_queueIn 3 (some .int) ∈ ps_T := ⟨ps_in 503 (by decide +kernel) (by decide +kernel), ps_in 504 (by decide +kernel) (by decide +kernel), ps_in 34 (by decide +kernel) (by decide +kernel), ps_in 505 (by decide +kernel) (by decide +kernel)⟩
theorem yw_X5_lacks : Cond.instanceMethod yX5_lacks ∈ ps_T ∧ Cond.selects RX5 yX5_lacks yX5_lacks ∈ ps_T ∧ Cond.initialized RX5 ∈ ps_T ∧ Cond.code yX5_lacks cX5_lacks 4 (some .int) ∈ ps_T := ⟨ps_in 507 (by decide +kernel) (by decide +kernel), ps_in 508 (by decide +kernel) (by decide +kernel), ps_in 34 (by decide +kernel) (by decide +kernel), ps_in 509 (by decide +kernel) (by decide +kernel)⟩
theorem yw_X5_count : Cond.instanceMethod yX5_count ∈ ps_T ∧ Cond.selects RX5 yX5_count yX5_count ∈ ps_T ∧ Cond.initialized RX5 ∈ ps_T ∧ Cond.code yX5_count cX5_count 2 (some .int) ∈ ps_T := ⟨ps_in 512 (by decide +kernel) (by decide +kernel), ps_in 513 (by decide +kernel) (by decide +kernel), ps_in 34 (by decide +kernel) (by decide +kernel), ps_in 514 (by decide +kernel) (by decide +kernel)⟩
theorem yw_X5_total : Cond.instanceMethod yX5_total ∈ ps_T ∧ Cond.selects RX5 yX5_total yX5_total ∈ ps_T ∧ Cond.initialized RX5 ∈ ps_T ∧ Cond.code yX5_total cX5_total 1 (some (.object "PaperStations$Station")) ∈ ps_T := ⟨ps_in 526 (by decide +kernel) (by decide +kernel), ps_in 8 (by decide +kernel) (by decide +kernel), ps_in 34 (by decide +kernel) (by decide +kernel), ps_in 527 (by decide +kernel) (by decide +kernel)⟩
theorem yw_X5_isHourToCome : Cond.instanceMethod yX5_isHourToCome ∈ ps_T ∧ Cond.selects RX5 yX5_isHourToCome yX5_isHourToCome ∈ ps_T ∧ Cond.initialized RX5 ∈ ps_T ∧ Cond.code yX5_isHourToCome cX5_isHourToCome 2 (some .boolean) ∈ ps_T := ⟨ps_in 285 (by decide +kernel) (by decide +kernel), ps_in 1 (by decide +kernel) (by decide +kernel), ps_in 34 (by decide +kernel) (by decide +kernel), ps_in 286 (by decide +kernel) (by decide +kernel)⟩
theorem yw_X5_isPaperNumber : Cond.static yX5_isPaperNumber ∈ ps_T ∧ Cond.initialized RX5 ∈ ps_T ∧ Cond.code yX5_isPaperNumber cX5_isPaperNumber 1 (some .boolean) ∈ ps_T := ⟨ps_in 386 (by decide +kernel) (by decide +kernel), ps_in 34 (by decide +kernel) (by decide +kernel), ps_in 387 (by decide +kernel) (by decide +kernel)⟩
theorem yw_X5_isWithin : Cond.static yX5_isWithin ∈ ps_T ∧ Cond.initialized RX5 ∈ ps_T ∧ Cond.code yX5_isWithin cX5_isWithin 3 (some .boolean) ∈ ps_T := ⟨ps_in 269 (by decide +kernel) (by decide +kernel), ps_in 34 (by decide +kernel) (by decide +kernel), ps_in 270 (by decide +kernel) (by decide +kernel)⟩
theorem yw_X6_init : Cond.instanceMethod yX6_init ∈ ps_T ∧ Cond.initialized RX6 ∈ ps_T ∧ Cond.code yX6_init cX6_init 1 none ∈ ps_T := ⟨ps_in 548 (by decide +kernel) (by decide +kernel), ps_in 40 (by decide +kernel) (by decide +kernel), ps_in 549 (by decide +kernel) (by decide +kernel)⟩
theorem yw_X6_in : Cond.static yX6_in ∈ ps_T ∧ Cond.initialized RX6 ∈ ps_T ∧ Cond.code yX6_in cX6_in 3 (some .boolean) ∈ ps_T := ⟨ps_in 602 (by decide +kernel) (by decide +kernel), ps_in 40 (by decide +kernel) (by decide +kernel), ps_in 603 (by decide +kernel) (by decide +kernel)⟩
theorem yw_X6_copies : Cond.static yX6_copies ∈ ps_T ∧ Cond.initialized RX6 ∈ ps_T ∧ Cond.code yX6_copies cX6_copies 5 none ∈ ps_T := ⟨ps_in 591 (by decide +kernel) (by decide +kernel), ps_in 40 (by decide +kernel) (by decide +kernel), ps_in 592 (by decide +kernel) (by decide +kernel)⟩
theorem yw_X6_records : Cond.instanceMethod yX6_records ∈ ps_T ∧ Cond.selects RX6 yX6_records yX6_records ∈ ps_T ∧ Cond.initialized RX6 ∈ ps_T ∧ Cond.code yX6_records cX6_records 2 none ∈ ps_T := ⟨ps_in 588 (by decide +kernel) (by decide +kernel), ps_in 9 (by decide +kernel) (by decide +kernel), ps_in 40 (by decide +kernel) (by decide +kernel), ps_in 589 (by decide +kernel) (by decide +kernel)⟩
theorem yw_X6_isStation : Cond.instanceMethod yX6_isStation ∈ ps_T ∧ Cond.selects RX6 yX6_isStation yX6_isStation ∈ ps_T ∧ Cond.initialized RX6 ∈ ps_T ∧ Cond.code yX6_isStation cX6_isStation 2 (some .boolean) ∈ ps_T := ⟨ps_in 614 (by decide +kernel) (by decide +kernel), ps_in 12 (by decide +kernel) (by decide +kernel), ps_in 40 (by decide +kernel) (by decide +kernel), ps_in 615 (by decide +kernel) (by decide +kernel)⟩
theorem yw_X6_isClerk : Cond.instanceMethod yX6_isClerk ∈ ps_T ∧ Cond.selects RX6 yX6_isClerk yX6_isClerk ∈ ps_T ∧ Cond.initialized RX6 ∈ ps_T ∧ Cond.code yX6_isClerk cX6_isClerk 2 (some .boolean) ∈ ps_T := ⟨ps_in 626 (by decide +kernel) (by decide +kernel), ps_in 14 (by decide +kernel) (by decide +kernel), ps_in 40 (by decide +kernel) (by decide +kernel), ps_in 627 (by decide +kernel) (by decide +kernel)⟩
theorem yw_X6_of : Cond.instanceMethod yX6_of ∈ ps_T ∧ Cond.selects RX6 yX6_of yX6_of ∈ ps_T ∧ Cond.initialized RX6 ∈ ps_T ∧ Cond.code yX6_of cX6_of 3 (some .int) ∈ ps_T := ⟨ps_in 618 (by decide +kernel) (by decide +kernel), ps_in 13 (by decide +kernel) (by decide +kernel), ps_in 40 (by decide +kernel) (by decide +kernel), ps_in 619 (by decide +kernel) (by decide +kernel)⟩
theorem yw_X6_adds : Cond.instanceMethod yX6_adds ∈ ps_T ∧ Cond.selects RX6 yX6_adds yX6_adds ∈ ps_T ∧ Cond.initialized RX6 ∈ ps_T ∧ Cond.code yX6_adds cX6_adds 4 none ∈ ps_T := ⟨ps_in 595 (by decide +kernel) (by decide +kernel), ps_in 10 (by decide +kernel) (by decide +kernel), ps_in 40 (by decide +kernel) (by decide +kernel), ps_in 596 (by decide +kernel) (by decide +kernel)⟩
theorem yw_X6_ofClerk : Cond.instanceMethod yX6_ofClerk ∈ ps_T ∧ Cond.selects RX6 yX6_ofClerk yX6_ofClerk ∈ ps_T ∧ Cond.initialized RX6 ∈ ps_T ∧ Cond.code yX6_ofClerk cX6_ofClerk 3 (some .int) ∈ ps_T := ⟨ps_in 634 (by decide +kernel) (by decide +kernel), ps_in 16 (by decide +kernel) (by decide +kernel), ps_in 40 (by decide +kernel) (by decide +kernel), ps_in 635 (by decide +kernel) (by decide +kernel)⟩
theorem yw_X6_laysClerk : Cond.instanceMethod yX6_laysClerk ∈ ps_T ∧ Cond.selects RX6 yX6_laysClerk yX6_laysClerk ∈ ps_T ∧ Cond.initialized RX6 ∈ ps_T ∧ Cond.code yX6_laysClerk cX6_laysClerk 4 none ∈ ps_T := ⟨ps_in 606 (by decide +kernel) (by decide +kernel), ps_in 11 (by decide +kernel) (by decide +kernel), ps_in 40 (by decide +kernel) (by decide +kernel), ps_in 607 (by decide +kernel) (by decide +kernel)⟩
theorem yw_X6_addStation : Cond.instanceMethod yX6_addStation ∈ ps_T ∧ Cond.selects RX6 yX6_addStation yX6_addStation ∈ ps_T ∧ Cond.initialized RX6 ∈ ps_T ∧ Cond.code yX6_addStation cX6_addStation 1 (some .int) ∈ ps_T := ⟨ps_in 583 (by decide +kernel) (by decide +kernel), ps_in 584 (by decide +kernel) (by decide +kernel), ps_in 40 (by decide +kernel) (by decide +kernel), ps_in 585 (by decide +kernel) (by decide +kernel)⟩
theorem yw_X6_addClerk : Cond.instanceMethod yX6_addClerk ∈ ps_T ∧ Cond.selects RX6 yX6_addClerk yX6_addClerk ∈ ps_T ∧ Cond.initialized RX6 ∈ ps_T ∧ Cond.code yX6_addClerk cX6_addClerk 4 (some .int) ∈ ps_T := ⟨ps_in 598 (by decide +kernel) (by decide +kernel), ps_in 599 (by decide +kernel) (by decide +kernel), ps_in 40 (by decide +kernel) (by decide +kernel), ps_in 600 (by decide +kernel) (by decide +kernel)⟩
theorem yw_X6_setArrivals : Cond.instanceMethod yX6_setArrivals ∈ ps_T ∧ Cond.selects RX6 yX6_setArrivals yX6_setArrivals ∈ ps_T ∧ Cond.initialized RX6 ∈ ps_T ∧ Cond.code yX6_setArrivals cX6_setArrivals 5 (some .int) ∈ ps_T := ⟨ps_in 609 (by decide +kernel) (by decide +kernel), ps_in 610 (by decide +kernel) (by decide +kernel), ps_in 40 (by decide +kernel) (by decide +kernel), ps_in 611 (by decide +kernel) (by decide +kernel)⟩
theorem yw_X6_isFree : Cond.instanceMethod yX6_isFree ∈ ps_T ∧ Cond.selects RX6 yX6_isFree yX6_isFree ∈ ps_T ∧ Cond.initialized RX6 ∈ ps_T ∧ Cond.code yX6_isFree cX6_isFree 2 (some .boolean) ∈ ps_T := ⟨ps_in 630 (by decide +kernel) (by decide +kernel), ps_in 15 (by decide +kernel) (by decide +kernel), ps_in 40 (by decide +kernel) (by decide +kernel), ps_in 631 (by decide +kernel) (by decide +kernel)⟩
theorem yw_X6_aheadOf : Cond.instanceMethod yX6_aheadOf ∈ ps_T ∧ Cond.selects RX6 yX6_aheadOf yX6_aheadOf ∈ ps_T ∧ Cond.initialized RX6 ∈ ps_T ∧ Cond.code yX6_aheadOf cX6_aheadOf 6 (some .int) ∈ ps_T := ⟨ps_in 670 (by decide +kernel) (by decide +kernel), ps_in 23 (by decide +kernel) (by decide +kernel), ps_in 40 (by decide +kernel) (by decide +kernel), ps_in 671 (by decide +kernel) (by decide +kernel)⟩
theorem yw_X6_freeAt : Cond.instanceMethod yX6_freeAt ∈ ps_T ∧ Cond.selects RX6 yX6_freeAt yX6_freeAt ∈ ps_T ∧ Cond.initialized RX6 ∈ ps_T ∧ Cond.code yX6_freeAt cX6_freeAt 3 (some .int) ∈ ps_T := ⟨ps_in 666 (by decide +kernel) (by decide +kernel), ps_in 22 (by decide +kernel) (by decide +kernel), ps_in 40 (by decide +kernel) (by decide +kernel), ps_in 667 (by decide +kernel) (by decide +kernel)⟩
theorem yw_X6_onDutyAt : Cond.instanceMethod yX6_onDutyAt ∈ ps_T ∧ Cond.selects RX6 yX6_onDutyAt yX6_onDutyAt ∈ ps_T ∧ Cond.initialized RX6 ∈ ps_T ∧ Cond.code yX6_onDutyAt cX6_onDutyAt 4 (some .int) ∈ ps_T := ⟨ps_in 638 (by decide +kernel) (by decide +kernel), ps_in 17 (by decide +kernel) (by decide +kernel), ps_in 40 (by decide +kernel) (by decide +kernel), ps_in 639 (by decide +kernel) (by decide +kernel)⟩
theorem yw_X6_serveAt : Cond.instanceMethod yX6_serveAt ∈ ps_T ∧ Cond.selects RX6 yX6_serveAt yX6_serveAt ∈ ps_T ∧ Cond.initialized RX6 ∈ ps_T ∧ Cond.code yX6_serveAt cX6_serveAt 4 (some .int) ∈ ps_T := ⟨ps_in 678 (by decide +kernel) (by decide +kernel), ps_in 25 (by decide +kernel) (by decide +kernel), ps_in 40 (by decide +kernel) (by decide +kernel), ps_in 679 (by decide +kernel) (by decide +kernel)⟩
theorem yw_X6_assign : Cond.instanceMethod yX6_assign ∈ ps_T ∧ Cond.selects RX6 yX6_assign yX6_assign ∈ ps_T ∧ Cond.initialized RX6 ∈ ps_T ∧ Cond.code yX6_assign cX6_assign 3 (some .int) ∈ ps_T := ⟨ps_in 621 (by decide +kernel) (by decide +kernel), ps_in 622 (by decide +kernel) (by decide +kernel), ps_in 40 (by decide +kernel) (by decide +kernel), ps_in 623 (by decide +kernel) (by decide +kernel)⟩
theorem yw_X6_leaves : Cond.instanceMethod yX6_leaves ∈ ps_T ∧ Cond.selects RX6 yX6_leaves yX6_leaves ∈ ps_T ∧ Cond.initialized RX6 ∈ ps_T ∧ Cond.code yX6_leaves cX6_leaves 3 none ∈ ps_T := ⟨ps_in 646 (by decide +kernel) (by decide +kernel), ps_in 18 (by decide +kernel) (by decide +kernel), ps_in 40 (by decide +kernel) (by decide +kernel), ps_in 647 (by decide +kernel) (by decide +kernel)⟩
theorem yw_X6_relieve : Cond.instanceMethod yX6_relieve ∈ ps_T ∧ Cond.selects RX6 yX6_relieve yX6_relieve ∈ ps_T ∧ Cond.initialized RX6 ∈ ps_T ∧ Cond.code yX6_relieve cX6_relieve 3 (some .int) ∈ ps_T := ⟨ps_in 641 (by decide +kernel) (by decide +kernel), ps_in 642 (by decide +kernel) (by decide +kernel), ps_in 40 (by decide +kernel) (by decide +kernel), ps_in 643 (by decide +kernel) (by decide +kernel)⟩
theorem yw_X6_serves : Cond.instanceMethod yX6_serves ∈ ps_T ∧ Cond.selects RX6 yX6_serves yX6_serves ∈ ps_T ∧ Cond.initialized RX6 ∈ ps_T ∧ Cond.code yX6_serves cX6_serves 3 (some .int) ∈ ps_T := ⟨ps_in 674 (by decide +kernel) (by decide +kernel), ps_in 24 (by decide +kernel) (by decide +kernel), ps_in 40 (by decide +kernel) (by decide +kernel), ps_in 675 (by decide +kernel) (by decide +kernel)⟩
theorem yw_X6_takesTurns : Cond.instanceMethod yX6_takesTurns ∈ ps_T ∧ Cond.selects RX6 yX6_takesTurns yX6_takesTurns ∈ ps_T ∧ Cond.initialized RX6 ∈ ps_T ∧ Cond.code yX6_takesTurns cX6_takesTurns 4 none ∈ ps_T := ⟨ps_in 662 (by decide +kernel) (by decide +kernel), ps_in 21 (by decide +kernel) (by decide +kernel), ps_in 40 (by decide +kernel) (by decide +kernel), ps_in 663 (by decide +kernel) (by decide +kernel)⟩
theorem yw_X6_hourPasses : Cond.instanceMethod yX6_hourPasses ∈ ps_T ∧ Cond.selects RX6 yX6_hourPasses yX6_hourPasses ∈ ps_T ∧ Cond.initialized RX6 ∈ ps_T ∧ Cond.code yX6_hourPasses cX6_hourPasses 5 (some .int) ∈ ps_T := ⟨ps_in 658 (by decide +kernel) (by decide +kernel), ps_in 20 (by decide +kernel) (by decide +kernel), ps_in 40 (by decide +kernel) (by decide +kernel), ps_in 659 (by decide +kernel) (by decide +kernel)⟩
theorem yw_X6_hoursPass : Cond.instanceMethod yX6_hoursPass ∈ ps_T ∧ Cond.selects RX6 yX6_hoursPass yX6_hoursPass ∈ ps_T ∧ Cond.initialized RX6 ∈ ps_T ∧ Cond.code yX6_hoursPass cX6_hoursPass 4 (some .int) ∈ ps_T := ⟨ps_in 654 (by decide +kernel) (by decide +kernel), ps_in 19 (by decide +kernel) (by decide +kernel), ps_in 40 (by decide +kernel) (by decide +kernel), ps_in 655 (by decide +kernel) (by decide +kernel)⟩
theorem yw_X6_pass : Cond.instanceMethod yX6_pass ∈ ps_T ∧ Cond.selects RX6 yX6_pass yX6_pass ∈ ps_T ∧ Cond.initialized RX6 ∈ ps_T ∧ Cond.code yX6_pass cX6_pass 2 (some .int) ∈ ps_T := ⟨ps_in 649 (by decide +kernel) (by decide +kernel), ps_in 650 (by decide +kernel) (by decide +kernel), ps_in 40 (by decide +kernel) (by decide +kernel), ps_in 651 (by decide +kernel) (by decide +kernel)⟩
theorem yw_X6_supply : Cond.instanceMethod yX6_supply ∈ ps_T ∧ Cond.selects RX6 yX6_supply yX6_supply ∈ ps_T ∧ Cond.initialized RX6 ∈ ps_T ∧ Cond.code yX6_supply cX6_supply 3 (some .int) ∈ ps_T := ⟨ps_in 681 (by decide +kernel) (by decide +kernel), ps_in 682 (by decide +kernel) (by decide +kernel), ps_in 40 (by decide +kernel) (by decide +kernel), ps_in 683 (by decide +kernel) (by decide +kernel)⟩
theorem yw_X6_movePapers : Cond.instanceMethod yX6_movePapers ∈ ps_T ∧ Cond.selects RX6 yX6_movePapers yX6_movePapers ∈ ps_T ∧ Cond.initialized RX6 ∈ ps_T ∧ Cond.code yX6_movePapers cX6_movePapers 4 (some .int) ∈ ps_T := ⟨ps_in 685 (by decide +kernel) (by decide +kernel), ps_in 686 (by decide +kernel) (by decide +kernel), ps_in 40 (by decide +kernel) (by decide +kernel), ps_in 687 (by decide +kernel) (by decide +kernel)⟩
theorem yw_X6_spoil : Cond.instanceMethod yX6_spoil ∈ ps_T ∧ Cond.selects RX6 yX6_spoil yX6_spoil ∈ ps_T ∧ Cond.initialized RX6 ∈ ps_T ∧ Cond.code yX6_spoil cX6_spoil 3 (some .int) ∈ ps_T := ⟨ps_in 689 (by decide +kernel) (by decide +kernel), ps_in 690 (by decide +kernel) (by decide +kernel), ps_in 40 (by decide +kernel) (by decide +kernel), ps_in 691 (by decide +kernel) (by decide +kernel)⟩
theorem yw_X6_carryOff : Cond.instanceMethod yX6_carryOff ∈ ps_T ∧ Cond.selects RX6 yX6_carryOff yX6_carryOff ∈ ps_T ∧ Cond.initialized RX6 ∈ ps_T ∧ Cond.code yX6_carryOff cX6_carryOff 3 (some .int) ∈ ps_T := ⟨ps_in 693 (by decide +kernel) (by decide +kernel), ps_in 694 (by decide +kernel) (by decide +kernel), ps_in 40 (by decide +kernel) (by decide +kernel), ps_in 695 (by decide +kernel) (by decide +kernel)⟩
theorem yw_X6_find : Cond.instanceMethod yX6_find ∈ ps_T ∧ Cond.selects RX6 yX6_find yX6_find ∈ ps_T ∧ Cond.initialized RX6 ∈ ps_T ∧ Cond.code yX6_find cX6_find 3 (some .int) ∈ ps_T := ⟨ps_in 697 (by decide +kernel) (by decide +kernel), ps_in 698 (by decide +kernel) (by decide +kernel), ps_in 40 (by decide +kernel) (by decide +kernel), ps_in 699 (by decide +kernel) (by decide +kernel)⟩
theorem yw_X6_countBox : Cond.instanceMethod yX6_countBox ∈ ps_T ∧ Cond.selects RX6 yX6_countBox yX6_countBox ∈ ps_T ∧ Cond.initialized RX6 ∈ ps_T ∧ Cond.code yX6_countBox cX6_countBox 3 (some .int) ∈ ps_T := ⟨ps_in 701 (by decide +kernel) (by decide +kernel), ps_in 702 (by decide +kernel) (by decide +kernel), ps_in 40 (by decide +kernel) (by decide +kernel), ps_in 703 (by decide +kernel) (by decide +kernel)⟩
theorem yw_X6_type : Cond.instanceMethod yX6_type ∈ ps_T ∧ Cond.selects RX6 yX6_type yX6_type ∈ ps_T ∧ Cond.initialized RX6 ∈ ps_T ∧ Cond.code yX6_type cX6_type 2 (some .int) ∈ ps_T := ⟨ps_in 706 (by decide +kernel) (by decide +kernel), ps_in 707 (by decide +kernel) (by decide +kernel), ps_in 40 (by decide +kernel) (by decide +kernel), ps_in 708 (by decide +kernel) (by decide +kernel)⟩
theorem yw_X6_clearText : Cond.instanceMethod yX6_clearText ∈ ps_T ∧ Cond.selects RX6 yX6_clearText yX6_clearText ∈ ps_T ∧ Cond.initialized RX6 ∈ ps_T ∧ Cond.code yX6_clearText cX6_clearText 2 (some .int) ∈ ps_T := ⟨ps_in 710 (by decide +kernel) (by decide +kernel), ps_in 711 (by decide +kernel) (by decide +kernel), ps_in 40 (by decide +kernel) (by decide +kernel), ps_in 712 (by decide +kernel) (by decide +kernel)⟩
theorem yw_X6_signAt : Cond.instanceMethod yX6_signAt ∈ ps_T ∧ Cond.selects RX6 yX6_signAt yX6_signAt ∈ ps_T ∧ Cond.initialized RX6 ∈ ps_T ∧ Cond.code yX6_signAt cX6_signAt 2 (some .int) ∈ ps_T := ⟨ps_in 723 (by decide +kernel) (by decide +kernel), ps_in 27 (by decide +kernel) (by decide +kernel), ps_in 40 (by decide +kernel) (by decide +kernel), ps_in 724 (by decide +kernel) (by decide +kernel)⟩
theorem yw_X6_faultOf : Cond.instanceMethod yX6_faultOf ∈ ps_T ∧ Cond.selects RX6 yX6_faultOf yX6_faultOf ∈ ps_T ∧ Cond.initialized RX6 ∈ ps_T ∧ Cond.code yX6_faultOf cX6_faultOf 5 (some .int) ∈ ps_T := ⟨ps_in 719 (by decide +kernel) (by decide +kernel), ps_in 26 (by decide +kernel) (by decide +kernel), ps_in 40 (by decide +kernel) (by decide +kernel), ps_in 720 (by decide +kernel) (by decide +kernel)⟩
theorem yw_X6_readArrivals : Cond.instanceMethod yX6_readArrivals ∈ ps_T ∧ Cond.selects RX6 yX6_readArrivals yX6_readArrivals ∈ ps_T ∧ Cond.initialized RX6 ∈ ps_T ∧ Cond.code yX6_readArrivals cX6_readArrivals 5 (some .int) ∈ ps_T := ⟨ps_in 714 (by decide +kernel) (by decide +kernel), ps_in 715 (by decide +kernel) (by decide +kernel), ps_in 40 (by decide +kernel) (by decide +kernel), ps_in 716 (by decide +kernel) (by decide +kernel)⟩
theorem yw_X6_undo : Cond.instanceMethod yX6_undo ∈ ps_T ∧ Cond.selects RX6 yX6_undo yX6_undo ∈ ps_T ∧ Cond.initialized RX6 ∈ ps_T ∧ Cond.code yX6_undo cX6_undo 1 (some .int) ∈ ps_T := ⟨ps_in 726 (by decide +kernel) (by decide +kernel), ps_in 727 (by decide +kernel) (by decide +kernel), ps_in 40 (by decide +kernel) (by decide +kernel), ps_in 728 (by decide +kernel) (by decide +kernel)⟩
theorem yw_X6_keep : Cond.instanceMethod yX6_keep ∈ ps_T ∧ Cond.selects RX6 yX6_keep yX6_keep ∈ ps_T ∧ Cond.initialized RX6 ∈ ps_T ∧ Cond.code yX6_keep cX6_keep 1 (some .int) ∈ ps_T := ⟨ps_in 730 (by decide +kernel) (by decide +kernel), ps_in 731 (by decide +kernel) (by decide +kernel), ps_in 40 (by decide +kernel) (by decide +kernel), ps_in 732 (by decide +kernel) (by decide +kernel)⟩
theorem yw_X6_restore : Cond.instanceMethod yX6_restore ∈ ps_T ∧ Cond.selects RX6 yX6_restore yX6_restore ∈ ps_T ∧ Cond.initialized RX6 ∈ ps_T ∧ Cond.code yX6_restore cX6_restore 1 (some .int) ∈ ps_T := ⟨ps_in 734 (by decide +kernel) (by decide +kernel), ps_in 735 (by decide +kernel) (by decide +kernel), ps_in 40 (by decide +kernel) (by decide +kernel), ps_in 736 (by decide +kernel) (by decide +kernel)⟩
theorem yw_X6_toServe : Cond.instanceMethod yX6_toServe ∈ ps_T ∧ Cond.selects RX6 yX6_toServe yX6_toServe ∈ ps_T ∧ Cond.initialized RX6 ∈ ps_T ∧ Cond.code yX6_toServe cX6_toServe 4 (some .int) ∈ ps_T := ⟨ps_in 747 (by decide +kernel) (by decide +kernel), ps_in 29 (by decide +kernel) (by decide +kernel), ps_in 40 (by decide +kernel) (by decide +kernel), ps_in 748 (by decide +kernel) (by decide +kernel)⟩
theorem yw_X6_arrivalsAll : Cond.instanceMethod yX6_arrivalsAll ∈ ps_T ∧ Cond.selects RX6 yX6_arrivalsAll yX6_arrivalsAll ∈ ps_T ∧ Cond.initialized RX6 ∈ ps_T ∧ Cond.code yX6_arrivalsAll cX6_arrivalsAll 4 (some .int) ∈ ps_T := ⟨ps_in 743 (by decide +kernel) (by decide +kernel), ps_in 28 (by decide +kernel) (by decide +kernel), ps_in 40 (by decide +kernel) (by decide +kernel), ps_in 744 (by decide +kernel) (by decide +kernel)⟩
theorem yw_X6_station : Cond.instanceMethod yX6_station ∈ ps_T ∧ Cond.selects RX6 yX6_station yX6_station ∈ ps_T ∧ Cond.initialized RX6 ∈ ps_T ∧ Cond.code yX6_station cX6_station 3 (some .int) ∈ ps_T := ⟨ps_in 738 (by decide +kernel) (by decide +kernel), ps_in 739 (by decide +kernel) (by decide +kernel), ps_in 40 (by decide +kernel) (by decide +kernel), ps_in 740 (by decide +kernel) (by decide +kernel)⟩
theorem yw_X6_papers : Cond.instanceMethod yX6_papers ∈ ps_T ∧ Cond.selects RX6 yX6_papers yX6_papers ∈ ps_T ∧ Cond.initialized RX6 ∈ ps_T ∧ Cond.code yX6_papers cX6_papers 4 (some .int) ∈ ps_T := ⟨ps_in 750 (by decide +kernel) (by decide +kernel), ps_in 751 (by decide +kernel) (by decide +kernel), ps_in 40 (by decide +kernel) (by decide +kernel), ps_in 752 (by decide +kernel) (by decide +kernel)⟩
theorem yw_X6_clerk : Cond.instanceMethod yX6_clerk ∈ ps_T ∧ Cond.selects RX6 yX6_clerk yX6_clerk ∈ ps_T ∧ Cond.initialized RX6 ∈ ps_T ∧ Cond.code yX6_clerk cX6_clerk 3 (some .int) ∈ ps_T := ⟨ps_in 755 (by decide +kernel) (by decide +kernel), ps_in 756 (by decide +kernel) (by decide +kernel), ps_in 40 (by decide +kernel) (by decide +kernel), ps_in 757 (by decide +kernel) (by decide +kernel)⟩
theorem yw_X6_arrivals : Cond.instanceMethod yX6_arrivals ∈ ps_T ∧ Cond.selects RX6 yX6_arrivals yX6_arrivals ∈ ps_T ∧ Cond.initialized RX6 ∈ ps_T ∧ Cond.code yX6_arrivals cX6_arrivals 3 (some .int) ∈ ps_T := ⟨ps_in 759 (by decide +kernel) (by decide +kernel), ps_in 760 (by decide +kernel) (by decide +kernel), ps_in 40 (by decide +kernel) (by decide +kernel), ps_in 761 (by decide +kernel) (by decide +kernel)⟩
theorem yw_X6_free : Cond.instanceMethod yX6_free ∈ ps_T ∧ Cond.selects RX6 yX6_free yX6_free ∈ ps_T ∧ Cond.initialized RX6 ∈ ps_T ∧ Cond.code yX6_free cX6_free 2 (some .int) ∈ ps_T := ⟨ps_in 763 (by decide +kernel) (by decide +kernel), ps_in 764 (by decide +kernel) (by decide +kernel), ps_in 40 (by decide +kernel) (by decide +kernel), ps_in 765 (by decide +kernel) (by decide +kernel)⟩
theorem yw_X6_busiest : Cond.instanceMethod yX6_busiest ∈ ps_T ∧ Cond.selects RX6 yX6_busiest yX6_busiest ∈ ps_T ∧ Cond.initialized RX6 ∈ ps_T ∧ Cond.code yX6_busiest cX6_busiest 5 (some .int) ∈ ps_T := ⟨ps_in 767 (by decide +kernel) (by decide +kernel), ps_in 768 (by decide +kernel) (by decide +kernel), ps_in 40 (by decide +kernel) (by decide +kernel), ps_in 769 (by decide +kernel) (by decide +kernel)⟩
theorem yw_X6_queueIn : Cond.instanceMethod yX6_queueIn ∈ ps_T ∧ Cond.selects RX6 yX6_queueIn yX6_queueIn ∈ ps_T ∧ Cond.initialized RX6 ∈ ps_T ∧ Cond.code yX6_queueIn cX6_queueIn 5 (some .int) ∈ ps_T := ⟨ps_in 771 (by decide +kernel) (by decide +kernel), ps_in 772 (by decide +kernel) (by decide +kernel), ps_in 40 (by decide +kernel) (by decide +kernel), ps_in 773 (by decide +kernel) (by decide +kernel)⟩
theorem yw_X6_lacks : Cond.instanceMethod yX6_lacks ∈ ps_T ∧ Cond.selects RX6 yX6_lacks yX6_lacks ∈ ps_T ∧ Cond.initialized RX6 ∈ ps_T ∧ Cond.code yX6_lacks cX6_lacks 6 (some .int) ∈ ps_T := ⟨ps_in 775 (by decide +kernel) (by decide +kernel), ps_in 776 (by decide +kernel) (by decide +kernel), ps_in 40 (by decide +kernel) (by decide +kernel), ps_in 777 (by decide +kernel) (by decide +kernel)⟩
theorem yw_X6_overStations : Cond.instanceMethod yX6_overStations ∈ ps_T ∧ Cond.selects RX6 yX6_overStations yX6_overStations ∈ ps_T ∧ Cond.initialized RX6 ∈ ps_T ∧ Cond.code yX6_overStations cX6_overStations 4 (some .int) ∈ ps_T := ⟨ps_in 789 (by decide +kernel) (by decide +kernel), ps_in 31 (by decide +kernel) (by decide +kernel), ps_in 40 (by decide +kernel) (by decide +kernel), ps_in 790 (by decide +kernel) (by decide +kernel)⟩
theorem yw_X6_countedAs : Cond.instanceMethod yX6_countedAs ∈ ps_T ∧ Cond.selects RX6 yX6_countedAs yX6_countedAs ∈ ps_T ∧ Cond.initialized RX6 ∈ ps_T ∧ Cond.code yX6_countedAs cX6_countedAs 4 (some .int) ∈ ps_T := ⟨ps_in 793 (by decide +kernel) (by decide +kernel), ps_in 32 (by decide +kernel) (by decide +kernel), ps_in 40 (by decide +kernel) (by decide +kernel), ps_in 794 (by decide +kernel) (by decide +kernel)⟩
theorem yw_X6_overClerks : Cond.instanceMethod yX6_overClerks ∈ ps_T ∧ Cond.selects RX6 yX6_overClerks yX6_overClerks ∈ ps_T ∧ Cond.initialized RX6 ∈ ps_T ∧ Cond.code yX6_overClerks cX6_overClerks 5 (some .int) ∈ ps_T := ⟨ps_in 785 (by decide +kernel) (by decide +kernel), ps_in 30 (by decide +kernel) (by decide +kernel), ps_in 40 (by decide +kernel) (by decide +kernel), ps_in 786 (by decide +kernel) (by decide +kernel)⟩
theorem yw_X6_count : Cond.instanceMethod yX6_count ∈ ps_T ∧ Cond.selects RX6 yX6_count yX6_count ∈ ps_T ∧ Cond.initialized RX6 ∈ ps_T ∧ Cond.code yX6_count cX6_count 2 (some .int) ∈ ps_T := ⟨ps_in 780 (by decide +kernel) (by decide +kernel), ps_in 781 (by decide +kernel) (by decide +kernel), ps_in 40 (by decide +kernel) (by decide +kernel), ps_in 782 (by decide +kernel) (by decide +kernel)⟩
theorem lkj_max : Cond.static Lib.Math.max.name ∈ ps_T := ps_in 371 (by decide +kernel) (by decide +kernel)
theorem lkj_min : Cond.static Lib.Math.min.name ∈ ps_T := ps_in 368 (by decide +kernel) (by decide +kernel)
theorem lkj_math : Cond.initialized "java/lang/Math" ∈ ps_T := ps_in 42 (by decide +kernel) (by decide +kernel)
theorem lkj_sys : Cond.initialized "java/lang/System" ∈ ps_T := ps_in 41 (by decide +kernel) (by decide +kernel)
theorem lkj_cps : Cond.static arraycopyName ∈ ps_T := ps_in 258 (by decide +kernel) (by decide +kernel)
theorem lkj_cpn : Cond.native arraycopyName ∈ ps_T := ps_in 259 (by decide +kernel) (by decide +kernel)
theorem lkj_oi : Cond.instanceMethod objectInit ∈ ps_T := ps_in 49 (by decide +kernel) (by decide +kernel)
theorem lkj_ai : Cond.arrayClass .int ∈ ps_T := ps_in 119 (by decide +kernel) (by decide +kernel)
theorem lkj_ac : Cond.arrayClass .char ∈ ps_T := ps_in 214 (by decide +kernel) (by decide +kernel)
theorem lkj_maxc : Cond.code Lib.Math.max.name Lib.Math.max.code 2 (some .int) ∈ ps_T := ps_in 372 (by decide +kernel) (by decide +kernel)
theorem lkj_minc : Cond.code Lib.Math.min.name Lib.Math.min.code 2 (some .int) ∈ ps_T := ps_in 369 (by decide +kernel) (by decide +kernel)
theorem lkj_oic : Cond.code objectInit ⟨#[0xb1]⟩ 1 none ∈ ps_T := ps_in 50 (by decide +kernel) (by decide +kernel)
theorem lki_X5 : Cond.initialized RX5 ∈ ps_T := ps_in 34 (by decide +kernel) (by decide +kernel)
theorem lki_X2 : Cond.initialized RX2 ∈ ps_T := ps_in 35 (by decide +kernel) (by decide +kernel)
theorem lki_X4 : Cond.initialized RX4 ∈ ps_T := ps_in 36 (by decide +kernel) (by decide +kernel)
theorem lki_X1 : Cond.initialized RX1 ∈ ps_T := ps_in 37 (by decide +kernel) (by decide +kernel)
theorem lki_X3 : Cond.initialized RX3 ∈ ps_T := ps_in 38 (by decide +kernel) (by decide +kernel)
theorem lki_X0 : Cond.initialized RX0 ∈ ps_T := ps_in 39 (by decide +kernel) (by decide +kernel)
theorem lki_X6 : Cond.initialized RX6 ∈ ps_T := ps_in 40 (by decide +kernel) (by decide +kernel)
theorem lkn_X5 : Cond.instantiable RX5 7 ∈ ps_T := ps_in 44 (by decide +kernel) (by decide +kernel)
theorem lkn_X2 : Cond.instantiable RX2 5 ∈ ps_T := ps_in 52 (by decide +kernel) (by decide +kernel)
theorem lkn_X4 : Cond.instantiable RX4 13 ∈ ps_T := ps_in 59 (by decide +kernel) (by decide +kernel)
theorem lkn_X1 : Cond.instantiable RX1 6 ∈ ps_T := ps_in 122 (by decide +kernel) (by decide +kernel)
theorem lkn_X3 : Cond.instantiable RX3 2 ∈ ps_T := ps_in 179 (by decide +kernel) (by decide +kernel)
theorem lkn_X0 : Cond.instantiable RX0 3 ∈ ps_T := ps_in 196 (by decide +kernel) (by decide +kernel)
theorem lkn_X6 : Cond.instantiable RX6 10 ∈ ps_T := ps_in 546 (by decide +kernel) (by decide +kernel)
end
section
/-! ===== THE MEMORY: a cell's number, a slot's number, an int; references never change (but the history's row of days, whose ints are cell numbers) ===== -/
abbrev ps_M : Type := Nat → Nat → Int32
def ps_st (M : ps_M) (k i : Nat) (v : Int32) : ps_M := fun a b => if b = i then (if a = k then v else M a b) else M a b
def ps_cpy (M : ps_M) (a sp b dp n : Nat) : ps_M := fun x i => if x = b then va_cpy (M a) (M b) sp dp n i else M x i
theorem ps_st_ne {M : ps_M} {k i : Nat} {v : Int32} {j : Nat} (h : j ≠ k) : ps_st M k i v j = M j := by
  funext b; simp [ps_st, h]
theorem ps_st_self {M : ps_M} {k i : Nat} {v : Int32} : ps_st M k i v k = upd (M k) i v := by
  funext b; simp [ps_st, upd]
theorem ps_cpy_ne {M : ps_M} {a sp b dp n j : Nat} (h : j ≠ b) : ps_cpy M a sp b dp n j = M j := by
  funext i; simp [ps_cpy, h]
theorem ps_cpy_self {M : ps_M} {a sp b dp n : Nat} : ps_cpy M a sp b dp n b = va_cpy (M a) (M b) sp dp n := by
  funext i; simp [ps_cpy]
/-! environments: classes and slots, the least address, array classes, addresses of the cells, the rest of the world -/
abbrev ps_E : Type := va_G × Nat × (Nat → ClassId) × (Nat → Nat) × va_W
abbrev ps_Y (μ : Type) : Type := va_G × Nat × (Nat → ClassId) × (μ → va_W)
abbrev ps_X (ρ : Type) : Type := Program × Launch × Env × Room × State × MethodId × Array Value × List Frame × Method × Code × Nat × Nat × Nat × (ρ → State → Prop)
abbrev ps_p {ρ : Type} (X : ps_X ρ) : Program := X.1
abbrev ps_l {ρ : Type} (X : ps_X ρ) : Launch := X.2.1
abbrev ps_e {ρ : Type} (X : ps_X ρ) : Env := X.2.2.1
abbrev ps_R {ρ : Type} (X : ps_X ρ) : Room := X.2.2.2.1
abbrev ps_s {ρ : Type} (X : ps_X ρ) : State := X.2.2.2.2.1
abbrev ps_m {ρ : Type} (X : ps_X ρ) : MethodId := X.2.2.2.2.2.1
abbrev ps_args {ρ : Type} (X : ps_X ρ) : Array Value := X.2.2.2.2.2.2.1
abbrev ps_below {ρ : Type} (X : ps_X ρ) : List Frame := X.2.2.2.2.2.2.2.1
abbrev ps_meth {ρ : Type} (X : ps_X ρ) : Method := X.2.2.2.2.2.2.2.2.1
abbrev ps_c {ρ : Type} (X : ps_X ρ) : Code := X.2.2.2.2.2.2.2.2.2.1
abbrev ps_cells {ρ : Type} (X : ps_X ρ) : Nat := X.2.2.2.2.2.2.2.2.2.2.1
abbrev ps_slots {ρ : Type} (X : ps_X ρ) : Nat := X.2.2.2.2.2.2.2.2.2.2.2.1
abbrev ps_nL {ρ : Type} (X : ps_X ρ) : Nat := X.2.2.2.2.2.2.2.2.2.2.2.2.1
abbrev ps_Qf {ρ : Type} (X : ps_X ρ) : ρ → State → Prop := X.2.2.2.2.2.2.2.2.2.2.2.2.2
def ps_tys (cid : Nat → ClassId) : List (ClassId × FieldType) := [(cid 0, .int), (cid 1, .char), (cid 2, .object "PaperStations$Station"), (cid 3, .object "PaperStations$Clerk"), (cid 4, .object "PaperStations$Day")]
/-- the machine at pc with these locals, this stack, and the memory M in the heap, comes to the end that r names -/
def ps_G {μ ρ : Type} (Y : ps_Y μ) (X : ps_X ρ) (r : ρ) (pc : Nat) (lv : List (Nat × Value)) (st : List Value) (M : μ) : Prop :=
  ∀ (H : Heap) (locs : List Loc) (ls : Array Slot), va_P Y.1 vwCl (Y.2.2.2 M) H → va_D (fun q => Y.2.1 ≤ q) (Y.2.2.2 M) → va_S (fun q => Y.2.1 ≤ q) (ps_s X).heap H locs → lv_has ls (ps_nL X) lv →
    W (ps_p X) (ps_l X) (ps_e X) (ps_R X) (ps_s X) (ps_m X) (ps_args X) (ps_below X) (ps_meth X) (ps_c X) H locs (ps_cells X) (ps_slots X) (ps_Qf X r) (F0 (ps_m X) pc ls st)
/-- what holds all through a method's body -/
def ps_C {μ ρ : Type} (Y : ps_Y μ) (X : ps_X ρ) (cc : ByteArray) (own : String) (ret : Option FieldType) (f n nL : Nat) : Prop :=
  (ps_p X).tables.exec = Jvm.exec ∧ (ps_c X).code = cc ∧ (ps_c X).maxLocals = ps_nL X ∧ ps_nL X = nL ∧ (ps_s X).vm.findClass own = some (ps_m X).cls ∧ (∀ w ∈ ps_T, w.before (ps_args X) (ps_s X) = true) ∧ (ps_meth X).sig.returnType = ret ∧ (ps_meth X).locks = false ∧
  va_K Y.1 vwCl (ps_tys Y.2.2.1) (ps_s X) ∧ Y.2.1 ≤ (ps_s X).heap.size ∧ f ≤ (ps_R X).frames ∧ n ≤ (ps_R X).locals ∧ ps_cells X ≤ (ps_R X).cells ∧ ps_slots X ≤ (ps_R X).slots
def ps_Wd {μ : Type} (Y : ps_Y μ) (M : μ) (t : State) : Prop := va_P Y.1 vwCl (Y.2.2.2 M) t.heap ∧ va_K Y.1 vwCl (ps_tys Y.2.2.1) t ∧ va_D (fun q => Y.2.1 ≤ q) (Y.2.2.2 M)
/-- returns of an int (with a memory), of nothing, of a reference -/
def ps_RI {μ : Type} (Y : ps_Y μ) (X : ps_X (Int32 × μ)) (cc : ByteArray) (ty : FieldType) : Prop := ∀ (v : Int32) (M : μ) (pc : Nat) (lv : List (Nat × Value)), decode cc pc = .ok (.ireturn, 1) → narrow ty (.int v) = .int v → ps_G Y X (v, M) pc lv [.int v] M
def ps_RV {μ : Type} (Y : ps_Y μ) (X : ps_X μ) (cc : ByteArray) : Prop := ∀ (M : μ) (pc : Nat) (lv : List (Nat × Value)), decode cc pc = .ok (.return_, 1) → ps_G Y X M pc lv [] M
def ps_RR {μ : Type} (Y : ps_Y μ) (X : ps_X (Nat × μ)) (cc : ByteArray) : Prop := ∀ (v : Nat) (M : μ) (pc : Nat) (lv : List (Nat × Value)), decode cc pc = .ok (.areturn, 1) → ps_G Y X (v, M) pc lv [.ref v] M
/-- contracts -/
def ps_CI {μ : Type} (Y : ps_Y μ) (l : Launch) (y : MethodName) (cc : ByteArray) (nL : Nat) (ret : Option FieldType) (f n : Nat) (as : List Value) (M : μ) (r : Int32 × μ) : Prop :=
  Met l y (.code y cc nL ret :: ps_T) { frames := f, cells := 0, slots := 0, locals := n } (va_Pc as (fun U => Y.2.1 ≤ U.heap.size ∧ ps_Wd Y M U)) (va_Qi (fun (x : Int32) (_ : Unit) => x = r.1) (fun _ t => ps_Wd Y r.2 t) (fun q => Y.2.1 ≤ q)) 0 0 (fun q => Y.2.1 ≤ q)
def ps_CV {μ : Type} (Y : ps_Y μ) (l : Launch) (y : MethodName) (cc : ByteArray) (nL : Nat) (f n : Nat) (as : List Value) (M : μ) (r : μ) : Prop :=
  Met l y (.code y cc nL none :: ps_T) { frames := f, cells := 0, slots := 0, locals := n } (va_Pc as (fun U => Y.2.1 ≤ U.heap.size ∧ ps_Wd Y M U)) (va_Qv (fun _ : Unit => True) (fun _ t => ps_Wd Y r t) (fun q => Y.2.1 ≤ q)) 0 0 (fun q => Y.2.1 ≤ q)
def ps_CR {μ : Type} (Y : ps_Y μ) (l : Launch) (y : MethodName) (cc : ByteArray) (nL : Nat) (ret : Option FieldType) (f n : Nat) (as : List Value) (M : μ) (r : Nat × μ) : Prop :=
  Met l y (.code y cc nL ret :: ps_T) { frames := f, cells := 0, slots := 0, locals := n } (va_Pc as (fun U => Y.2.1 ≤ U.heap.size ∧ ps_Wd Y M U)) (va_Qr (fun _ : Unit => True) (fun _ a t => a = r.1 ∧ ps_Wd Y r.2 t) (fun q => Y.2.1 ≤ q)) 0 0 (fun q => Y.2.1 ≤ q)
theorem ps_S0 {A : Nat → Prop} {H0 H : Heap} {locs : List Loc} (h : va_S A H0 H locs) : ∀ q ∈ locs, A q.base := h.2.2

theorem ps_metI {μ : Type} {Y : ps_Y μ} {l : Launch} {y : MethodName} {cc : ByteArray} {nL f n : Nat} {ty : FieldType} {as : List Value} {lv : List (Nat × Value)} {M : μ} {r : (Int32 × μ)} (own : String) (hy : plainName y.cls = true) (hown : y.cls = own) (hlen : (lg_sl as).length ≤ nL) (hlv : lv_args 0 as = lv)
    (k : ∀ X : ps_X (Int32 × μ), ps_l X = l → ps_C Y X cc own (some ty) f n nL → ps_RI Y X cc ty → ps_G Y X r 0 lv [] M) : ps_CI Y l y cc nL (some ty) f n as M r := by
  refine Met.ofW (cc := cc) (maxL := nL) (ret := some ty) hy rfl ?_
  intro p e s m args below meth c s₁ B hml hv
  obtain ⟨rfl, hb0, hP, hK, hD⟩ := hv
  have hts := atoms_spec (ws := .code y cc nL (some ty) :: ps_T) B.pre
  have hfc : s.vm.findClass own = some m.cls := by rw [← hown]; exact findClass_of_methodNamed B.named
  have hr := B.returns
  have hlk := B.notSynchronized
  have hx := B.exec
  have hb := B.bytes
  subst hlv
  have key := k (p, l, e, { frames := f, cells := 0, slots := 0, locals := n }, s, m, as.toArray, below, meth, c, 0, 0, nL, fun z => MQ below (va_Qi (fun (x : Int32) (_ : Unit) => x = z.1) (fun _ t => ps_Wd Y z.2 t) (fun q => Y.2.1 ≤ q)) as.toArray s 0 0 (fun q => Y.2.1 ≤ q)) rfl
    ⟨hx, hb, hml, rfl, hfc, fun w h => hts w (List.mem_cons_of_mem _ h), hr, hlk, hK, hb0, Nat.le_refl _, Nat.le_refl _, Nat.le_refl _, Nat.le_refl _⟩ ?_
  · rw [lg_entry_eq]
    exact key s.heap [] _ hP hD va_S.rf (lv_entry as hlen)
  · intro v M' pc lv' hdg hn H locs ls hP hD hS hl
    exact W.zret hx hb hr hn (fun t ht hW => ⟨⟨v, (), rfl, rfl, by rw [ht]; exact hP, va_K.moved hW.alike hK, hD⟩, hS.F ht⟩) hS.2.2 hdg

theorem ps_metV {μ : Type} {Y : ps_Y μ} {l : Launch} {y : MethodName} {cc : ByteArray} {nL f n : Nat} {as : List Value} {lv : List (Nat × Value)} {M : μ} {r : μ} (own : String) (hy : plainName y.cls = true) (hown : y.cls = own) (hlen : (lg_sl as).length ≤ nL) (hlv : lv_args 0 as = lv)
    (k : ∀ X : ps_X μ, ps_l X = l → ps_C Y X cc own none f n nL → ps_RV Y X cc → ps_G Y X r 0 lv [] M) : ps_CV Y l y cc nL f n as M r := by
  refine Met.ofW (cc := cc) (maxL := nL) (ret := none) hy rfl ?_
  intro p e s m args below meth c s₁ B hml hv
  obtain ⟨rfl, hb0, hP, hK, hD⟩ := hv
  have hts := atoms_spec (ws := .code y cc nL none :: ps_T) B.pre
  have hfc : s.vm.findClass own = some m.cls := by rw [← hown]; exact findClass_of_methodNamed B.named
  have hr := B.returns
  have hlk := B.notSynchronized
  have hx := B.exec
  have hb := B.bytes
  subst hlv
  have key := k (p, l, e, { frames := f, cells := 0, slots := 0, locals := n }, s, m, as.toArray, below, meth, c, 0, 0, nL, fun z => MQ below (va_Qv (fun _ : Unit => True) (fun _ t => ps_Wd Y z t) (fun q => Y.2.1 ≤ q)) as.toArray s 0 0 (fun q => Y.2.1 ≤ q)) rfl
    ⟨hx, hb, hml, rfl, hfc, fun w h => hts w (List.mem_cons_of_mem _ h), hr, hlk, hK, hb0, Nat.le_refl _, Nat.le_refl _, Nat.le_refl _, Nat.le_refl _⟩ ?_
  · rw [lg_entry_eq]
    exact key s.heap [] _ hP hD va_S.rf (lv_entry as hlen)
  · intro M' pc lv' hdg H locs ls hP hD hS hl
    exact W.vret hx hb hr (fun t ht hW => ⟨⟨(), rfl, trivial, by rw [ht]; exact hP, va_K.moved hW.alike hK, hD⟩, hS.F ht⟩) hS.2.2 hdg

theorem ps_metR {μ : Type} {Y : ps_Y μ} {l : Launch} {y : MethodName} {cc : ByteArray} {nL f n : Nat} {ty : FieldType} (hty : (∃ n, ty = .object n) ∨ ∃ t, ty = .array t) {as : List Value} {lv : List (Nat × Value)} {M : μ} {r : (Nat × μ)} (own : String) (hy : plainName y.cls = true) (hown : y.cls = own) (hlen : (lg_sl as).length ≤ nL) (hlv : lv_args 0 as = lv)
    (k : ∀ X : ps_X (Nat × μ), ps_l X = l → ps_C Y X cc own (some ty) f n nL → ps_RR Y X cc → ps_G Y X r 0 lv [] M) : ps_CR Y l y cc nL (some ty) f n as M r := by
  refine Met.ofW (cc := cc) (maxL := nL) (ret := some ty) hy rfl ?_
  intro p e s m args below meth c s₁ B hml hv
  obtain ⟨rfl, hb0, hP, hK, hD⟩ := hv
  have hts := atoms_spec (ws := .code y cc nL (some ty) :: ps_T) B.pre
  have hfc : s.vm.findClass own = some m.cls := by rw [← hown]; exact findClass_of_methodNamed B.named
  have hr := B.returns
  have hlk := B.notSynchronized
  have hx := B.exec
  have hb := B.bytes
  subst hlv
  have key := k (p, l, e, { frames := f, cells := 0, slots := 0, locals := n }, s, m, as.toArray, below, meth, c, 0, 0, nL, fun z => MQ below (va_Qr (fun _ : Unit => True) (fun _ a t => a = z.1 ∧ ps_Wd Y z.2 t) (fun q => Y.2.1 ≤ q)) as.toArray s 0 0 (fun q => Y.2.1 ≤ q)) rfl
    ⟨hx, hb, hml, rfl, hfc, fun w h => hts w (List.mem_cons_of_mem _ h), hr, hlk, hK, hb0, Nat.le_refl _, Nat.le_refl _, Nat.le_refl _, Nat.le_refl _⟩ ?_
  · rw [lg_entry_eq]
    exact key s.heap [] _ hP hD va_S.rf (lv_entry as hlen)
  · intro v M' pc lv' hdg H locs ls hP hD hS hl
    exact W.aret hx hb hr hty (Or.inr ⟨v, rfl⟩) (fun t ht hW => ⟨⟨(), v, rfl, trivial, rfl, by rw [ht]; exact hP, va_K.moved hW.alike hK, hD⟩, hS.F ht⟩) hS.2.2 hdg

theorem gw_iconst {μ ρ : Type} {Y : ps_Y μ} {X : ps_X ρ} {cc : ByteArray} {own : String} {ret : Option FieldType} {f n nL : Nat} (C : ps_C Y X cc own ret f n nL) {r : ρ} {pc : Nat} {lv : List (Nat × Value)} {st : List Value} {M : μ} (pc' : Nat) {z : Int} {v : Int32} (hd : decode cc pc = .ok (.iconst z, 1)) (hv : Int32.ofInt z = v) (hp : pc + 1 = pc') (k : ps_G Y X r pc' lv (.int v :: st) M) : ps_G Y X r pc lv st M := by
  subst hp
  intro H locs ls hP hD hS hl
  obtain ⟨hx, hb, hml, hnL, hown, hts, hr, hlk, hK, hb0, hfr, hlo, hce, hsl⟩ := C
  exact lv_iconst hx hb hd hv (k H locs ls hP hD hS hl)
theorem gw_bipush {μ ρ : Type} {Y : ps_Y μ} {X : ps_X ρ} {cc : ByteArray} {own : String} {ret : Option FieldType} {f n nL : Nat} (C : ps_C Y X cc own ret f n nL) {r : ρ} {pc : Nat} {lv : List (Nat × Value)} {st : List Value} {M : μ} (pc' : Nat) {z : Int} {v : Int32} (hd : decode cc pc = .ok (.bipush z, 2)) (hv : (Int8.ofInt z).toInt32 = v) (hp : pc + 2 = pc') (k : ps_G Y X r pc' lv (.int v :: st) M) : ps_G Y X r pc lv st M := by
  subst hp
  intro H locs ls hP hD hS hl
  obtain ⟨hx, hb, hml, hnL, hown, hts, hr, hlk, hK, hb0, hfr, hlo, hce, hsl⟩ := C
  exact lv_bipush hx hb hd hv (k H locs ls hP hD hS hl)
theorem gw_sipush {μ ρ : Type} {Y : ps_Y μ} {X : ps_X ρ} {cc : ByteArray} {own : String} {ret : Option FieldType} {f n nL : Nat} (C : ps_C Y X cc own ret f n nL) {r : ρ} {pc : Nat} {lv : List (Nat × Value)} {st : List Value} {M : μ} (pc' : Nat) {z : Int} {v : Int32} (hd : decode cc pc = .ok (.sipush z, 3)) (hv : (Int16.ofInt z).toInt32 = v) (hp : pc + 3 = pc') (k : ps_G Y X r pc' lv (.int v :: st) M) : ps_G Y X r pc lv st M := by
  subst hp
  intro H locs ls hP hD hS hl
  obtain ⟨hx, hb, hml, hnL, hown, hts, hr, hlk, hK, hb0, hfr, hlo, hce, hsl⟩ := C
  exact lv_sipush hx hb hd hv (k H locs ls hP hD hS hl)
theorem gw_ldc {μ ρ : Type} {Y : ps_Y μ} {X : ps_X ρ} {cc : ByteArray} {own : String} {ret : Option FieldType} {f n nL : Nat} (C : ps_C Y X cc own ret f n nL) {r : ρ} {pc : Nat} {lv : List (Nat × Value)} {st : List Value} {M : μ} (pc' : Nat) {z : Nat} {v : Int32} (hd : decode cc pc = .ok (.ldc z, 2)) (hw : Cond.constant own z v ∈ ps_T) (hp : pc + 2 = pc') (k : ps_G Y X r pc' lv (.int v :: st) M) : ps_G Y X r pc lv st M := by
  subst hp
  intro H locs ls hP hD hS hl
  obtain ⟨hx, hb, hml, hnL, hown, hts, hr, hlk, hK, hb0, hfr, hlo, hce, hsl⟩ := C
  exact lv_ldc hx hb hown (hts _ hw) hd (k H locs ls hP hD hS hl)
theorem gw_iload_n {μ ρ : Type} {Y : ps_Y μ} {X : ps_X ρ} {cc : ByteArray} {own : String} {ret : Option FieldType} {f n nL : Nat} (C : ps_C Y X cc own ret f n nL) {r : ρ} {pc : Nat} {lv : List (Nat × Value)} {st : List Value} {M : μ} (pc' : Nat) {i : Fin 4} {x : Int32} (hd : decode cc pc = .ok (.iload_n i, 1)) (q : Nat) (h : lv[q]? = some ((i : Nat), .int x)) (hp : pc + 1 = pc') (k : ps_G Y X r pc' lv (.int x :: st) M) : ps_G Y X r pc lv st M := by
  subst hp
  intro H locs ls hP hD hS hl
  obtain ⟨hx, hb, hml, hnL, hown, hts, hr, hlk, hK, hb0, hfr, hlo, hce, hsl⟩ := C
  exact lv_iload_n hx hb hd rfl (lv_at hl q h) (k H locs ls hP hD hS hl)
theorem gw_iload {μ ρ : Type} {Y : ps_Y μ} {X : ps_X ρ} {cc : ByteArray} {own : String} {ret : Option FieldType} {f n nL : Nat} (C : ps_C Y X cc own ret f n nL) {r : ρ} {pc : Nat} {lv : List (Nat × Value)} {st : List Value} {M : μ} (pc' : Nat) {i : Nat} {x : Int32} (hd : decode cc pc = .ok (.iload i, 2)) (q : Nat) (h : lv[q]? = some (i, .int x)) (hp : pc + 2 = pc') (k : ps_G Y X r pc' lv (.int x :: st) M) : ps_G Y X r pc lv st M := by
  subst hp
  intro H locs ls hP hD hS hl
  obtain ⟨hx, hb, hml, hnL, hown, hts, hr, hlk, hK, hb0, hfr, hlo, hce, hsl⟩ := C
  exact lv_iload hx hb hd (lv_at hl q h) (k H locs ls hP hD hS hl)
theorem gw_aload_n {μ ρ : Type} {Y : ps_Y μ} {X : ps_X ρ} {cc : ByteArray} {own : String} {ret : Option FieldType} {f n nL : Nat} (C : ps_C Y X cc own ret f n nL) {r : ρ} {pc : Nat} {lv : List (Nat × Value)} {st : List Value} {M : μ} (pc' : Nat) {i : Fin 4} {x : Nat} (hd : decode cc pc = .ok (.aload_n i, 1)) (q : Nat) (h : lv[q]? = some ((i : Nat), .ref x)) (hp : pc + 1 = pc') (k : ps_G Y X r pc' lv (.ref x :: st) M) : ps_G Y X r pc lv st M := by
  subst hp
  intro H locs ls hP hD hS hl
  obtain ⟨hx, hb, hml, hnL, hown, hts, hr, hlk, hK, hb0, hfr, hlo, hce, hsl⟩ := C
  exact lv_aload_n hx hb hd rfl (lv_at hl q h) (k H locs ls hP hD hS hl)
theorem gw_aload {μ ρ : Type} {Y : ps_Y μ} {X : ps_X ρ} {cc : ByteArray} {own : String} {ret : Option FieldType} {f n nL : Nat} (C : ps_C Y X cc own ret f n nL) {r : ρ} {pc : Nat} {lv : List (Nat × Value)} {st : List Value} {M : μ} (pc' : Nat) {i : Nat} {x : Nat} (hd : decode cc pc = .ok (.aload i, 2)) (q : Nat) (h : lv[q]? = some (i, .ref x)) (hp : pc + 2 = pc') (k : ps_G Y X r pc' lv (.ref x :: st) M) : ps_G Y X r pc lv st M := by
  subst hp
  intro H locs ls hP hD hS hl
  obtain ⟨hx, hb, hml, hnL, hown, hts, hr, hlk, hK, hb0, hfr, hlo, hce, hsl⟩ := C
  exact lv_aload hx hb hd (lv_at hl q h) (k H locs ls hP hD hS hl)
theorem gw_iadd {μ ρ : Type} {Y : ps_Y μ} {X : ps_X ρ} {cc : ByteArray} {own : String} {ret : Option FieldType} {f n nL : Nat} (C : ps_C Y X cc own ret f n nL) {r : ρ} {pc : Nat} {lv : List (Nat × Value)} {st : List Value} {M : μ} (pc' : Nat) {x y : Int32} (hd : decode cc pc = .ok (.iadd, 1)) (hp : pc + 1 = pc') (k : ps_G Y X r pc' lv (.int (x + y) :: st) M) : ps_G Y X r pc lv (.int y :: .int x :: st) M := by
  subst hp
  intro H locs ls hP hD hS hl
  obtain ⟨hx, hb, hml, hnL, hown, hts, hr, hlk, hK, hb0, hfr, hlo, hce, hsl⟩ := C
  exact lv_iadd hx hb hd (k H locs ls hP hD hS hl)
theorem gw_isub {μ ρ : Type} {Y : ps_Y μ} {X : ps_X ρ} {cc : ByteArray} {own : String} {ret : Option FieldType} {f n nL : Nat} (C : ps_C Y X cc own ret f n nL) {r : ρ} {pc : Nat} {lv : List (Nat × Value)} {st : List Value} {M : μ} (pc' : Nat) {x y : Int32} (hd : decode cc pc = .ok (.isub, 1)) (hp : pc + 1 = pc') (k : ps_G Y X r pc' lv (.int (x - y) :: st) M) : ps_G Y X r pc lv (.int y :: .int x :: st) M := by
  subst hp
  intro H locs ls hP hD hS hl
  obtain ⟨hx, hb, hml, hnL, hown, hts, hr, hlk, hK, hb0, hfr, hlo, hce, hsl⟩ := C
  exact lv_isub hx hb hd (k H locs ls hP hD hS hl)
theorem gw_imul {μ ρ : Type} {Y : ps_Y μ} {X : ps_X ρ} {cc : ByteArray} {own : String} {ret : Option FieldType} {f n nL : Nat} (C : ps_C Y X cc own ret f n nL) {r : ρ} {pc : Nat} {lv : List (Nat × Value)} {st : List Value} {M : μ} (pc' : Nat) {x y : Int32} (hd : decode cc pc = .ok (.imul, 1)) (hp : pc + 1 = pc') (k : ps_G Y X r pc' lv (.int (x * y) :: st) M) : ps_G Y X r pc lv (.int y :: .int x :: st) M := by
  subst hp
  intro H locs ls hP hD hS hl
  obtain ⟨hx, hb, hml, hnL, hown, hts, hr, hlk, hK, hb0, hfr, hlo, hce, hsl⟩ := C
  exact lv_imul hx hb hd (k H locs ls hP hD hS hl)
theorem gw_iand {μ ρ : Type} {Y : ps_Y μ} {X : ps_X ρ} {cc : ByteArray} {own : String} {ret : Option FieldType} {f n nL : Nat} (C : ps_C Y X cc own ret f n nL) {r : ρ} {pc : Nat} {lv : List (Nat × Value)} {st : List Value} {M : μ} (pc' : Nat) {x y : Int32} (hd : decode cc pc = .ok (.iand, 1)) (hp : pc + 1 = pc') (k : ps_G Y X r pc' lv (.int (x &&& y) :: st) M) : ps_G Y X r pc lv (.int y :: .int x :: st) M := by
  subst hp
  intro H locs ls hP hD hS hl
  obtain ⟨hx, hb, hml, hnL, hown, hts, hr, hlk, hK, hb0, hfr, hlo, hce, hsl⟩ := C
  exact lv_iand hx hb hd (k H locs ls hP hD hS hl)
theorem gw_idiv {μ ρ : Type} {Y : ps_Y μ} {X : ps_X ρ} {cc : ByteArray} {own : String} {ret : Option FieldType} {f n nL : Nat} (C : ps_C Y X cc own ret f n nL) {r : ρ} {pc : Nat} {lv : List (Nat × Value)} {st : List Value} {M : μ} (pc' : Nat) {x y : Int32} (hd : decode cc pc = .ok (.idiv, 1)) (hne : ¬ y = 0) (hp : pc + 1 = pc') (k : ps_G Y X r pc' lv (.int (x / y) :: st) M) : ps_G Y X r pc lv (.int y :: .int x :: st) M := by
  subst hp
  intro H locs ls hP hD hS hl
  obtain ⟨hx, hb, hml, hnL, hown, hts, hr, hlk, hK, hb0, hfr, hlo, hce, hsl⟩ := C
  exact lv_idiv hx hb hd hne (k H locs ls hP hD hS hl)
theorem gw_ineg {μ ρ : Type} {Y : ps_Y μ} {X : ps_X ρ} {cc : ByteArray} {own : String} {ret : Option FieldType} {f n nL : Nat} (C : ps_C Y X cc own ret f n nL) {r : ρ} {pc : Nat} {lv : List (Nat × Value)} {st : List Value} {M : μ} (pc' : Nat) {x : Int32} (hd : decode cc pc = .ok (.ineg, 1)) (hp : pc + 1 = pc') (k : ps_G Y X r pc' lv (.int (-x) :: st) M) : ps_G Y X r pc lv (.int x :: st) M := by
  subst hp
  intro H locs ls hP hD hS hl
  obtain ⟨hx, hb, hml, hnL, hown, hts, hr, hlk, hK, hb0, hfr, hlo, hce, hsl⟩ := C
  exact lv_ineg hx hb hd (k H locs ls hP hD hS hl)
theorem gw_i2c {μ ρ : Type} {Y : ps_Y μ} {X : ps_X ρ} {cc : ByteArray} {own : String} {ret : Option FieldType} {f n nL : Nat} (C : ps_C Y X cc own ret f n nL) {r : ρ} {pc : Nat} {lv : List (Nat × Value)} {st : List Value} {M : μ} (pc' : Nat) {x : Int32} (hd : decode cc pc = .ok (.i2c, 1)) (hp : pc + 1 = pc') (k : ps_G Y X r pc' lv (.int ((x.toUInt32 % 65536).toInt32) :: st) M) : ps_G Y X r pc lv (.int x :: st) M := by
  subst hp
  intro H locs ls hP hD hS hl
  obtain ⟨hx, hb, hml, hnL, hown, hts, hr, hlk, hK, hb0, hfr, hlo, hce, hsl⟩ := C
  exact lv_i2c hx hb hd rfl (k H locs ls hP hD hS hl)
theorem gw_dup {μ ρ : Type} {Y : ps_Y μ} {X : ps_X ρ} {cc : ByteArray} {own : String} {ret : Option FieldType} {f n nL : Nat} (C : ps_C Y X cc own ret f n nL) {r : ρ} {pc : Nat} {lv : List (Nat × Value)} {st : List Value} {M : μ} (pc' : Nat) {v : Value} (hd : decode cc pc = .ok (.dup, 1)) (hv : v.category = 1) (hp : pc + 1 = pc') (k : ps_G Y X r pc' lv (v :: v :: st) M) : ps_G Y X r pc lv (v :: st) M := by
  subst hp
  intro H locs ls hP hD hS hl
  obtain ⟨hx, hb, hml, hnL, hown, hts, hr, hlk, hK, hb0, hfr, hlo, hce, hsl⟩ := C
  exact lv_dup hx hb hd hv (k H locs ls hP hD hS hl)
theorem gw_pop {μ ρ : Type} {Y : ps_Y μ} {X : ps_X ρ} {cc : ByteArray} {own : String} {ret : Option FieldType} {f n nL : Nat} (C : ps_C Y X cc own ret f n nL) {r : ρ} {pc : Nat} {lv : List (Nat × Value)} {st : List Value} {M : μ} (pc' : Nat) {v : Value} (hd : decode cc pc = .ok (.pop, 1)) (hv : v.category = 1) (hp : pc + 1 = pc') (k : ps_G Y X r pc' lv st M) : ps_G Y X r pc lv (v :: st) M := by
  subst hp
  intro H locs ls hP hD hS hl
  obtain ⟨hx, hb, hml, hnL, hown, hts, hr, hlk, hK, hb0, hfr, hlo, hce, hsl⟩ := C
  exact lv_pop hx hb hd hv (k H locs ls hP hD hS hl)
theorem gw_dup2 {μ ρ : Type} {Y : ps_Y μ} {X : ps_X ρ} {cc : ByteArray} {own : String} {ret : Option FieldType} {f n nL : Nat} (C : ps_C Y X cc own ret f n nL) {r : ρ} {pc : Nat} {lv : List (Nat × Value)} {st : List Value} {M : μ} (pc' : Nat) {v u : Value} (hd : decode cc pc = .ok (.dup2, 1)) (hv : v.category = 1) (hu : u.category = 1) (hp : pc + 1 = pc') (k : ps_G Y X r pc' lv (v :: u :: v :: u :: st) M) : ps_G Y X r pc lv (v :: u :: st) M := by
  subst hp
  intro H locs ls hP hD hS hl
  obtain ⟨hx, hb, hml, hnL, hown, hts, hr, hlk, hK, hb0, hfr, hlo, hce, hsl⟩ := C
  exact lv_dup2_11 hx hb hd hv hu (k H locs ls hP hD hS hl)
theorem gw_istore_n {μ ρ : Type} {Y : ps_Y μ} {X : ps_X ρ} {cc : ByteArray} {own : String} {ret : Option FieldType} {f n nL : Nat} (C : ps_C Y X cc own ret f n nL) {r : ρ} {pc : Nat} {lv : List (Nat × Value)} {st : List Value} {M : μ} (pc' : Nat) {i : Fin 4} {x : Int32} (hd : decode cc pc = .ok (.istore_n i, 1)) (hp : pc + 1 = pc') (lv' : List (Nat × Value)) (qs : List Nat) (hi : (i : Nat) < nL) (h : lv_pick (((i : Nat), Value.int x) :: lv.filter (fun q => !(q.1 == (i : Nat)) && !(q.1 + 1 == (i : Nat) && q.2.category == 2))) qs = lv') (k : ps_G Y X r pc' lv' st M) : ps_G Y X r pc lv (.int x :: st) M := by
  subst hp
  intro H locs ls hP hD hS hl
  obtain ⟨hx, hb, hml, hnL, hown, hts, hr, hlk, hK, hb0, hfr, hlo, hce, hsl⟩ := C
  rw [hnL] at hl
  exact lv_istore_n hx hb hd rfl hl hi rfl (fun ls' hl' => k H locs ls' hP hD hS (by rw [hnL]; exact lv_sub hl' qs h))
theorem gw_istore {μ ρ : Type} {Y : ps_Y μ} {X : ps_X ρ} {cc : ByteArray} {own : String} {ret : Option FieldType} {f n nL : Nat} (C : ps_C Y X cc own ret f n nL) {r : ρ} {pc : Nat} {lv : List (Nat × Value)} {st : List Value} {M : μ} (pc' : Nat) {i : Nat} {x : Int32} (hd : decode cc pc = .ok (.istore i, 2)) (hp : pc + 2 = pc') (lv' : List (Nat × Value)) (qs : List Nat) (hi : (i : Nat) < nL) (h : lv_pick (((i : Nat), Value.int x) :: lv.filter (fun q => !(q.1 == (i : Nat)) && !(q.1 + 1 == (i : Nat) && q.2.category == 2))) qs = lv') (k : ps_G Y X r pc' lv' st M) : ps_G Y X r pc lv (.int x :: st) M := by
  subst hp
  intro H locs ls hP hD hS hl
  obtain ⟨hx, hb, hml, hnL, hown, hts, hr, hlk, hK, hb0, hfr, hlo, hce, hsl⟩ := C
  rw [hnL] at hl
  exact lv_istore hx hb hd hl hi rfl (fun ls' hl' => k H locs ls' hP hD hS (by rw [hnL]; exact lv_sub hl' qs h))
theorem gw_astore_n {μ ρ : Type} {Y : ps_Y μ} {X : ps_X ρ} {cc : ByteArray} {own : String} {ret : Option FieldType} {f n nL : Nat} (C : ps_C Y X cc own ret f n nL) {r : ρ} {pc : Nat} {lv : List (Nat × Value)} {st : List Value} {M : μ} (pc' : Nat) {i : Fin 4} {x : Nat} (hd : decode cc pc = .ok (.astore_n i, 1)) (hp : pc + 1 = pc') (lv' : List (Nat × Value)) (qs : List Nat) (hi : (i : Nat) < nL) (h : lv_pick (((i : Nat), Value.ref x) :: lv.filter (fun q => !(q.1 == (i : Nat)) && !(q.1 + 1 == (i : Nat) && q.2.category == 2))) qs = lv') (k : ps_G Y X r pc' lv' st M) : ps_G Y X r pc lv (.ref x :: st) M := by
  subst hp
  intro H locs ls hP hD hS hl
  obtain ⟨hx, hb, hml, hnL, hown, hts, hr, hlk, hK, hb0, hfr, hlo, hce, hsl⟩ := C
  rw [hnL] at hl
  exact lv_astore_n hx hb hd rfl hl hi rfl (fun ls' hl' => k H locs ls' hP hD hS (by rw [hnL]; exact lv_sub hl' qs h))
theorem gw_astore {μ ρ : Type} {Y : ps_Y μ} {X : ps_X ρ} {cc : ByteArray} {own : String} {ret : Option FieldType} {f n nL : Nat} (C : ps_C Y X cc own ret f n nL) {r : ρ} {pc : Nat} {lv : List (Nat × Value)} {st : List Value} {M : μ} (pc' : Nat) {i : Nat} {x : Nat} (hd : decode cc pc = .ok (.astore i, 2)) (hp : pc + 2 = pc') (lv' : List (Nat × Value)) (qs : List Nat) (hi : (i : Nat) < nL) (h : lv_pick (((i : Nat), Value.ref x) :: lv.filter (fun q => !(q.1 == (i : Nat)) && !(q.1 + 1 == (i : Nat) && q.2.category == 2))) qs = lv') (k : ps_G Y X r pc' lv' st M) : ps_G Y X r pc lv (.ref x :: st) M := by
  subst hp
  intro H locs ls hP hD hS hl
  obtain ⟨hx, hb, hml, hnL, hown, hts, hr, hlk, hK, hb0, hfr, hlo, hce, hsl⟩ := C
  rw [hnL] at hl
  exact lv_astore hx hb hd hl hi rfl (fun ls' hl' => k H locs ls' hP hD hS (by rw [hnL]; exact lv_sub hl' qs h))
theorem gw_iinc {μ ρ : Type} {Y : ps_Y μ} {X : ps_X ρ} {cc : ByteArray} {own : String} {ret : Option FieldType} {f n nL : Nat} (C : ps_C Y X cc own ret f n nL) {r : ρ} {pc : Nat} {lv : List (Nat × Value)} {st : List Value} {M : μ} (pc' : Nat) {i : Nat} {z : Int} {x y v : Int32} (hd : decode cc pc = .ok (.iinc i z, 3)) (hp : pc + 3 = pc') (hy : Int32.ofInt z = y) (hv : x + y = v) (q : Nat) (hq : lv[q]? = some (i, .int x)) (lv' : List (Nat × Value)) (qs : List Nat) (hi : i < nL) (h : lv_pick ((i, Value.int v) :: lv.filter (fun q => !(q.1 == i) && !(q.1 + 1 == i && q.2.category == 2))) qs = lv') (k : ps_G Y X r pc' lv' st M) : ps_G Y X r pc lv st M := by
  subst hp
  intro H locs ls hP hD hS hl
  obtain ⟨hx, hb, hml, hnL, hown, hts, hr, hlk, hK, hb0, hfr, hlo, hce, hsl⟩ := C
  rw [hnL] at hl
  subst hy; subst hv
  exact lv_iinc hx hb hd hl hq rfl hi rfl (fun ls' hl' => k H locs ls' hP hD hS (by rw [hnL]; exact lv_sub hl' qs h))
theorem gw_sub {μ ρ : Type} {Y : ps_Y μ} {X : ps_X ρ} {cc : ByteArray} {own : String} {ret : Option FieldType} {f n nL : Nat} (C : ps_C Y X cc own ret f n nL) {r : ρ} {pc : Nat} {lv : List (Nat × Value)} {st : List Value} {M : μ} (lv' : List (Nat × Value)) (qs : List Nat) (h : lv_pick lv qs = lv') (k : ps_G Y X r pc lv' st M) : ps_G Y X r pc lv st M := fun H locs ls hP hD hS hl => k H locs ls hP hD hS (lv_sub hl qs h)
theorem gw_goto {μ ρ : Type} {Y : ps_Y μ} {X : ps_X ρ} {cc : ByteArray} {own : String} {ret : Option FieldType} {f n nL : Nat} (C : ps_C Y X cc own ret f n nL) {r : ρ} {pc : Nat} {lv : List (Nat × Value)} {st : List Value} {M : μ} {off : Int} (tgt : Nat) (hd : decode cc pc = .ok (.goto off, 3)) (ht : (pc : Int) + off = (tgt : Int)) (k : ps_G Y X r tgt lv st M) : ps_G Y X r pc lv st M := by
  intro H locs ls hP hD hS hl
  obtain ⟨hx, hb, hml, hnL, hown, hts, hr, hlk, hK, hb0, hfr, hlo, hce, hsl⟩ := C
  exact lv_goto hx hb hd ht (k H locs ls hP hD hS hl)
theorem gw_if_eq {μ ρ : Type} {Y : ps_Y μ} {X : ps_X ρ} {cc : ByteArray} {own : String} {ret : Option FieldType} {f n nL : Nat} (C : ps_C Y X cc own ret f n nL) {a b : ρ} {pc : Nat} {lv : List (Nat × Value)} {st : List Value} {M : μ} (tgt pc' : Nat) {x : Int32} {off : Int} (hd : decode cc pc = .ok (.ifCond .eq off, 3)) (ht : (pc : Int) + off = (tgt : Int)) (hp : pc + 3 = pc') (kt : x = 0 → ps_G Y X a tgt lv st M) (kf : ¬ x = 0 → ps_G Y X b pc' lv st M) : ps_G Y X (if x = 0 then a else b) pc lv (.int x :: st) M := by
  subst hp
  intro H locs ls hP hD hS hl
  obtain ⟨hx, hb, hml, hnL, hown, hts, hr, hlk, hK, hb0, hfr, hlo, hce, hsl⟩ := C
  exact lv_if_eq hx hb hd ht (fun h => by have := kt h; rw [if_pos h]; exact this H locs ls hP hD hS hl) (fun h => by have := kf h; rw [if_neg h]; exact this H locs ls hP hD hS hl)
theorem gw_if_ne {μ ρ : Type} {Y : ps_Y μ} {X : ps_X ρ} {cc : ByteArray} {own : String} {ret : Option FieldType} {f n nL : Nat} (C : ps_C Y X cc own ret f n nL) {a b : ρ} {pc : Nat} {lv : List (Nat × Value)} {st : List Value} {M : μ} (tgt pc' : Nat) {x : Int32} {off : Int} (hd : decode cc pc = .ok (.ifCond .ne off, 3)) (ht : (pc : Int) + off = (tgt : Int)) (hp : pc + 3 = pc') (kf : x = 0 → ps_G Y X a pc' lv st M) (kt : ¬ x = 0 → ps_G Y X b tgt lv st M) : ps_G Y X (if x = 0 then a else b) pc lv (.int x :: st) M := by
  subst hp
  intro H locs ls hP hD hS hl
  obtain ⟨hx, hb, hml, hnL, hown, hts, hr, hlk, hK, hb0, hfr, hlo, hce, hsl⟩ := C
  exact lv_if_ne hx hb hd ht (fun h => by have := kt h; rw [if_neg h]; exact this H locs ls hP hD hS hl) (fun h => by have := kf h; rw [if_pos h]; exact this H locs ls hP hD hS hl)
theorem gw_if_lt {μ ρ : Type} {Y : ps_Y μ} {X : ps_X ρ} {cc : ByteArray} {own : String} {ret : Option FieldType} {f n nL : Nat} (C : ps_C Y X cc own ret f n nL) {a b : ρ} {pc : Nat} {lv : List (Nat × Value)} {st : List Value} {M : μ} (tgt pc' : Nat) {x : Int32} {off : Int} (hd : decode cc pc = .ok (.ifCond .lt off, 3)) (ht : (pc : Int) + off = (tgt : Int)) (hp : pc + 3 = pc') (kt : x < 0 → ps_G Y X a tgt lv st M) (kf : ¬ x < 0 → ps_G Y X b pc' lv st M) : ps_G Y X (if x < 0 then a else b) pc lv (.int x :: st) M := by
  subst hp
  intro H locs ls hP hD hS hl
  obtain ⟨hx, hb, hml, hnL, hown, hts, hr, hlk, hK, hb0, hfr, hlo, hce, hsl⟩ := C
  exact lv_if_lt hx hb hd ht (fun h => by have := kt h; rw [if_pos h]; exact this H locs ls hP hD hS hl) (fun h => by have := kf h; rw [if_neg h]; exact this H locs ls hP hD hS hl)
theorem gw_if_ge {μ ρ : Type} {Y : ps_Y μ} {X : ps_X ρ} {cc : ByteArray} {own : String} {ret : Option FieldType} {f n nL : Nat} (C : ps_C Y X cc own ret f n nL) {a b : ρ} {pc : Nat} {lv : List (Nat × Value)} {st : List Value} {M : μ} (tgt pc' : Nat) {x : Int32} {off : Int} (hd : decode cc pc = .ok (.ifCond .ge off, 3)) (ht : (pc : Int) + off = (tgt : Int)) (hp : pc + 3 = pc') (kt : 0 ≤ x → ps_G Y X a tgt lv st M) (kf : ¬ 0 ≤ x → ps_G Y X b pc' lv st M) : ps_G Y X (if 0 ≤ x then a else b) pc lv (.int x :: st) M := by
  subst hp
  intro H locs ls hP hD hS hl
  obtain ⟨hx, hb, hml, hnL, hown, hts, hr, hlk, hK, hb0, hfr, hlo, hce, hsl⟩ := C
  exact lv_if_ge hx hb hd ht (fun h => by have := kt h; rw [if_pos h]; exact this H locs ls hP hD hS hl) (fun h => by have := kf h; rw [if_neg h]; exact this H locs ls hP hD hS hl)
theorem gw_if_gt {μ ρ : Type} {Y : ps_Y μ} {X : ps_X ρ} {cc : ByteArray} {own : String} {ret : Option FieldType} {f n nL : Nat} (C : ps_C Y X cc own ret f n nL) {a b : ρ} {pc : Nat} {lv : List (Nat × Value)} {st : List Value} {M : μ} (tgt pc' : Nat) {x : Int32} {off : Int} (hd : decode cc pc = .ok (.ifCond .gt off, 3)) (ht : (pc : Int) + off = (tgt : Int)) (hp : pc + 3 = pc') (kt : 0 < x → ps_G Y X a tgt lv st M) (kf : ¬ 0 < x → ps_G Y X b pc' lv st M) : ps_G Y X (if 0 < x then a else b) pc lv (.int x :: st) M := by
  subst hp
  intro H locs ls hP hD hS hl
  obtain ⟨hx, hb, hml, hnL, hown, hts, hr, hlk, hK, hb0, hfr, hlo, hce, hsl⟩ := C
  exact lv_if_gt hx hb hd ht (fun h => by have := kt h; rw [if_pos h]; exact this H locs ls hP hD hS hl) (fun h => by have := kf h; rw [if_neg h]; exact this H locs ls hP hD hS hl)
theorem gw_if_le {μ ρ : Type} {Y : ps_Y μ} {X : ps_X ρ} {cc : ByteArray} {own : String} {ret : Option FieldType} {f n nL : Nat} (C : ps_C Y X cc own ret f n nL) {a b : ρ} {pc : Nat} {lv : List (Nat × Value)} {st : List Value} {M : μ} (tgt pc' : Nat) {x : Int32} {off : Int} (hd : decode cc pc = .ok (.ifCond .le off, 3)) (ht : (pc : Int) + off = (tgt : Int)) (hp : pc + 3 = pc') (kt : x ≤ 0 → ps_G Y X a tgt lv st M) (kf : ¬ x ≤ 0 → ps_G Y X b pc' lv st M) : ps_G Y X (if x ≤ 0 then a else b) pc lv (.int x :: st) M := by
  subst hp
  intro H locs ls hP hD hS hl
  obtain ⟨hx, hb, hml, hnL, hown, hts, hr, hlk, hK, hb0, hfr, hlo, hce, hsl⟩ := C
  exact lv_if_le hx hb hd ht (fun h => by have := kt h; rw [if_pos h]; exact this H locs ls hP hD hS hl) (fun h => by have := kf h; rw [if_neg h]; exact this H locs ls hP hD hS hl)
theorem gw_ic_eq {μ ρ : Type} {Y : ps_Y μ} {X : ps_X ρ} {cc : ByteArray} {own : String} {ret : Option FieldType} {f n nL : Nat} (C : ps_C Y X cc own ret f n nL) {a b : ρ} {pc : Nat} {lv : List (Nat × Value)} {st : List Value} {M : μ} (tgt pc' : Nat) {x y : Int32} {off : Int} (hd : decode cc pc = .ok (.if_icmp .eq off, 3)) (ht : (pc : Int) + off = (tgt : Int)) (hp : pc + 3 = pc') (kt : x = y → ps_G Y X a tgt lv st M) (kf : ¬ x = y → ps_G Y X b pc' lv st M) : ps_G Y X (if x = y then a else b) pc lv (.int y :: .int x :: st) M := by
  subst hp
  intro H locs ls hP hD hS hl
  obtain ⟨hx, hb, hml, hnL, hown, hts, hr, hlk, hK, hb0, hfr, hlo, hce, hsl⟩ := C
  exact lv_icmp_eq hx hb hd ht (fun h => by have := kt h; rw [if_pos h]; exact this H locs ls hP hD hS hl) (fun h => by have := kf h; rw [if_neg h]; exact this H locs ls hP hD hS hl)
theorem gw_ic_ne {μ ρ : Type} {Y : ps_Y μ} {X : ps_X ρ} {cc : ByteArray} {own : String} {ret : Option FieldType} {f n nL : Nat} (C : ps_C Y X cc own ret f n nL) {a b : ρ} {pc : Nat} {lv : List (Nat × Value)} {st : List Value} {M : μ} (tgt pc' : Nat) {x y : Int32} {off : Int} (hd : decode cc pc = .ok (.if_icmp .ne off, 3)) (ht : (pc : Int) + off = (tgt : Int)) (hp : pc + 3 = pc') (kf : x = y → ps_G Y X a pc' lv st M) (kt : ¬ x = y → ps_G Y X b tgt lv st M) : ps_G Y X (if x = y then a else b) pc lv (.int y :: .int x :: st) M := by
  subst hp
  intro H locs ls hP hD hS hl
  obtain ⟨hx, hb, hml, hnL, hown, hts, hr, hlk, hK, hb0, hfr, hlo, hce, hsl⟩ := C
  exact lv_icmp_ne hx hb hd ht (fun h => by have := kt h; rw [if_neg h]; exact this H locs ls hP hD hS hl) (fun h => by have := kf h; rw [if_pos h]; exact this H locs ls hP hD hS hl)
theorem gw_ic_lt {μ ρ : Type} {Y : ps_Y μ} {X : ps_X ρ} {cc : ByteArray} {own : String} {ret : Option FieldType} {f n nL : Nat} (C : ps_C Y X cc own ret f n nL) {a b : ρ} {pc : Nat} {lv : List (Nat × Value)} {st : List Value} {M : μ} (tgt pc' : Nat) {x y : Int32} {off : Int} (hd : decode cc pc = .ok (.if_icmp .lt off, 3)) (ht : (pc : Int) + off = (tgt : Int)) (hp : pc + 3 = pc') (kt : x < y → ps_G Y X a tgt lv st M) (kf : ¬ x < y → ps_G Y X b pc' lv st M) : ps_G Y X (if x < y then a else b) pc lv (.int y :: .int x :: st) M := by
  subst hp
  intro H locs ls hP hD hS hl
  obtain ⟨hx, hb, hml, hnL, hown, hts, hr, hlk, hK, hb0, hfr, hlo, hce, hsl⟩ := C
  exact lv_icmp_lt hx hb hd ht (fun h => by have := kt h; rw [if_pos h]; exact this H locs ls hP hD hS hl) (fun h => by have := kf h; rw [if_neg h]; exact this H locs ls hP hD hS hl)
theorem gw_ic_ge {μ ρ : Type} {Y : ps_Y μ} {X : ps_X ρ} {cc : ByteArray} {own : String} {ret : Option FieldType} {f n nL : Nat} (C : ps_C Y X cc own ret f n nL) {a b : ρ} {pc : Nat} {lv : List (Nat × Value)} {st : List Value} {M : μ} (tgt pc' : Nat) {x y : Int32} {off : Int} (hd : decode cc pc = .ok (.if_icmp .ge off, 3)) (ht : (pc : Int) + off = (tgt : Int)) (hp : pc + 3 = pc') (kt : y ≤ x → ps_G Y X a tgt lv st M) (kf : ¬ y ≤ x → ps_G Y X b pc' lv st M) : ps_G Y X (if y ≤ x then a else b) pc lv (.int y :: .int x :: st) M := by
  subst hp
  intro H locs ls hP hD hS hl
  obtain ⟨hx, hb, hml, hnL, hown, hts, hr, hlk, hK, hb0, hfr, hlo, hce, hsl⟩ := C
  exact lv_icmp_ge hx hb hd ht (fun h => by have := kt h; rw [if_pos h]; exact this H locs ls hP hD hS hl) (fun h => by have := kf h; rw [if_neg h]; exact this H locs ls hP hD hS hl)
theorem gw_ic_gt {μ ρ : Type} {Y : ps_Y μ} {X : ps_X ρ} {cc : ByteArray} {own : String} {ret : Option FieldType} {f n nL : Nat} (C : ps_C Y X cc own ret f n nL) {a b : ρ} {pc : Nat} {lv : List (Nat × Value)} {st : List Value} {M : μ} (tgt pc' : Nat) {x y : Int32} {off : Int} (hd : decode cc pc = .ok (.if_icmp .gt off, 3)) (ht : (pc : Int) + off = (tgt : Int)) (hp : pc + 3 = pc') (kt : y < x → ps_G Y X a tgt lv st M) (kf : ¬ y < x → ps_G Y X b pc' lv st M) : ps_G Y X (if y < x then a else b) pc lv (.int y :: .int x :: st) M := by
  subst hp
  intro H locs ls hP hD hS hl
  obtain ⟨hx, hb, hml, hnL, hown, hts, hr, hlk, hK, hb0, hfr, hlo, hce, hsl⟩ := C
  exact lv_icmp_gt hx hb hd ht (fun h => by have := kt h; rw [if_pos h]; exact this H locs ls hP hD hS hl) (fun h => by have := kf h; rw [if_neg h]; exact this H locs ls hP hD hS hl)
theorem gw_ic_le {μ ρ : Type} {Y : ps_Y μ} {X : ps_X ρ} {cc : ByteArray} {own : String} {ret : Option FieldType} {f n nL : Nat} (C : ps_C Y X cc own ret f n nL) {a b : ρ} {pc : Nat} {lv : List (Nat × Value)} {st : List Value} {M : μ} (tgt pc' : Nat) {x y : Int32} {off : Int} (hd : decode cc pc = .ok (.if_icmp .le off, 3)) (ht : (pc : Int) + off = (tgt : Int)) (hp : pc + 3 = pc') (kt : x ≤ y → ps_G Y X a tgt lv st M) (kf : ¬ x ≤ y → ps_G Y X b pc' lv st M) : ps_G Y X (if x ≤ y then a else b) pc lv (.int y :: .int x :: st) M := by
  subst hp
  intro H locs ls hP hD hS hl
  obtain ⟨hx, hb, hml, hnL, hown, hts, hr, hlk, hK, hb0, hfr, hlo, hce, hsl⟩ := C
  exact lv_icmp_le hx hb hd ht (fun h => by have := kt h; rw [if_pos h]; exact this H locs ls hP hD hS hl) (fun h => by have := kf h; rw [if_neg h]; exact this H locs ls hP hD hS hl)
theorem gw_case {μ ρ : Type} {Y : ps_Y μ} {X : ps_X ρ} {cc : ByteArray} {own : String} {ret : Option FieldType} {f n nL : Nat} (C : ps_C Y X cc own ret f n nL) {a b : ρ} {pc : Nat} {lv : List (Nat × Value)} {st : List Value} {M : μ} {x : Int32} (v : Int32) (ka : x = v → ps_G Y X a pc lv (.int x :: st) M) (kb : ¬ x = v → ps_G Y X b pc lv (.int x :: st) M) : ps_G Y X (if x = v then a else b) pc lv (.int x :: st) M := by
  by_cases h : x = v
  · rw [if_pos h]; exact ka h
  · rw [if_neg h]; exact kb h
theorem gw_tin {μ ρ : Type} {Y : ps_Y μ} {X : ps_X ρ} {cc : ByteArray} {own : String} {ret : Option FieldType} {f n nL : Nat} (C : ps_C Y X cc own ret f n nL) {r : ρ} {pc : Nat} {lv : List (Nat × Value)} {st : List Value} {M : μ} (tgt : Nat) {x v : Int32} {dflt lo hi : Int} {offs : Array Int} {len : Nat} (vi off : Int) (hxv : x = v) (hv : v.toInt = vi) (hd : decode cc pc = .ok (.tableswitch dflt lo hi offs, len)) (h1 : ¬ vi < lo) (h2 : ¬ hi < vi) (ho : offs[(vi - lo).toNat]? = some off) (ht : (pc : Int) + off = (tgt : Int)) (k : ps_G Y X r tgt lv st M) : ps_G Y X r pc lv (.int x :: st) M := by
  subst hxv; subst hv
  intro H locs ls hP hD hS hl
  obtain ⟨hx, hb, hml, hnL, hown, hts, hr, hlk, hK, hb0, hfr, hlo, hce, hsl⟩ := C
  exact lv_tableIn hx hb hd h1 h2 ho ht (k H locs ls hP hD hS hl)
theorem gw_tout {μ ρ : Type} {Y : ps_Y μ} {X : ps_X ρ} {cc : ByteArray} {own : String} {ret : Option FieldType} {f n nL : Nat} (C : ps_C Y X cc own ret f n nL) {r : ρ} {pc : Nat} {lv : List (Nat × Value)} {st : List Value} {M : μ} (tgt : Nat) {x : Int32} {dflt lo hi : Int} {offs : Array Int} {len : Nat} (hd : decode cc pc = .ok (.tableswitch dflt lo hi offs, len)) (h : x.toInt < lo ∨ hi < x.toInt) (ht : (pc : Int) + dflt = (tgt : Int)) (k : ps_G Y X r tgt lv st M) : ps_G Y X r pc lv (.int x :: st) M := by
  intro H locs ls hP hD hS hl
  obtain ⟨hx, hb, hml, hnL, hown, hts, hr, hlk, hK, hb0, hfr, hlo, hce, hsl⟩ := C
  exact lv_tableOut hx hb hd h ht (k H locs ls hP hD hS hl)
theorem ps_ne_int {x v : Int32} (h : ¬ x = v) {z : Int} (hz : v.toInt = z) : ¬ x.toInt = z := fun q => h (Int32.toInt_inj.mp (by rw [hz]; exact q))
theorem gw_mmax {μ ρ : Type} {Y : ps_Y μ} {X : ps_X ρ} {cc : ByteArray} {own : String} {ret : Option FieldType} {f n nL : Nat} (C : ps_C Y X cc own ret f n nL) {r : ρ} {pc : Nat} {lv : List (Nat × Value)} {st : List Value} {M : μ} (pc' : Nat) {x y : Int32} {z : Nat} (hd : decode cc pc = .ok (.invokestatic z, 3)) (hp : pc + 3 = pc') (hw : Cond.methodLink own z Lib.Math.max.name ∈ ps_T) (hf : 1 ≤ f) (hn : (st.map fun v => v.category).sum + 13 ≤ n) (k : ps_G Y X r pc' lv (.int (if x < y then y else x) :: st) M) : ps_G Y X r pc lv (.int y :: .int x :: st) M := by
  subst hp
  intro H locs ls hP hD hS hl
  obtain ⟨hx, hb, hml, hnL, hown, hts, hr, hlk, hK, hb0, hfr, hlo, hce, hsl⟩ := C
  exact va_mmax hx hb (by rw [hml]; exact hl.1.symm) hown (hts _ hw) (hts _ lkj_max) (hts _ lkj_math) (hts _ lkj_maxc) (Nat.le_trans hf hfr) (Nat.le_trans hn hlo) hce hsl hd (k H locs ls hP hD hS hl)
theorem gw_mmin {μ ρ : Type} {Y : ps_Y μ} {X : ps_X ρ} {cc : ByteArray} {own : String} {ret : Option FieldType} {f n nL : Nat} (C : ps_C Y X cc own ret f n nL) {r : ρ} {pc : Nat} {lv : List (Nat × Value)} {st : List Value} {M : μ} (pc' : Nat) {x y : Int32} {z : Nat} (hd : decode cc pc = .ok (.invokestatic z, 3)) (hp : pc + 3 = pc') (hw : Cond.methodLink own z Lib.Math.min.name ∈ ps_T) (hf : 1 ≤ f) (hn : (st.map fun v => v.category).sum + 13 ≤ n) (k : ps_G Y X r pc' lv (.int (if y < x then y else x) :: st) M) : ps_G Y X r pc lv (.int y :: .int x :: st) M := by
  subst hp
  intro H locs ls hP hD hS hl
  obtain ⟨hx, hb, hml, hnL, hown, hts, hr, hlk, hK, hb0, hfr, hlo, hce, hsl⟩ := C
  exact va_mmin hx hb (by rw [hml]; exact hl.1.symm) hown (hts _ hw) (hts _ lkj_min) (hts _ lkj_math) (hts _ lkj_minc) (Nat.le_trans hf hfr) (Nat.le_trans hn hlo) hce hsl hd (k H locs ls hP hD hS hl)
/-- what the tables say of an instance method, of a static one -/
def ps_yv (y : MethodName) (cy : ByteArray) (nLy : Nat) (ry : Option FieldType) (CN : String) (na : Nat) : Prop := (Cond.instanceMethod y ∈ ps_T ∧ Cond.selects CN y y ∈ ps_T ∧ Cond.initialized CN ∈ ps_T ∧ Cond.code y cy nLy ry ∈ ps_T) ∧ (y.cls = CN ∧ y.cls ≠ "java/lang/invoke/MethodHandle" ∧ y.cls ≠ "java/lang/invoke/VarHandle" ∧ (parseMethodDescriptor y.desc).map (fun d => d.parameters.length) = some na)
def ps_ys (y : MethodName) (cy : ByteArray) (nLy : Nat) (ry : Option FieldType) (na : Nat) : Prop := (Cond.static y ∈ ps_T ∧ Cond.initialized y.cls ∈ ps_T ∧ Cond.code y cy nLy ry ∈ ps_T) ∧ (y.cls ≠ "java/lang/invoke/MethodHandle" ∧ y.cls ≠ "java/lang/invoke/VarHandle" ∧ (parseMethodDescriptor y.desc).map (fun d => d.parameters.length) = some na)
theorem ps_good {w : Cond} (h : w ∈ ps_T) : w ∈ ps_T ∧ ((w.onTables && w.keeps) = true ∨ ∃ ty, w = .arrayClass ty) := ⟨h, (ps_goodT w h).2⟩
theorem ps_gV {own CN : String} {z nLy na : Nat} {y : MethodName} {cy : ByteArray} {ry : Option FieldType} (hy : ps_yv y cy nLy ry CN na) (hl : Cond.methodLink own z y ∈ ps_T) : GoodIn ps_T (wsV own z CN y (.code y cy nLy ry :: ps_T)) := by
  intro w hw
  simp only [wsV, List.cons_append, List.nil_append, List.mem_cons] at hw
  rcases hw with rfl | rfl | rfl | rfl | rfl | h
  · exact ps_good hl
  · exact ps_good hy.1.1
  · exact ps_good hy.1.2.1
  · exact ps_good hy.1.2.2.1
  · exact ps_good hy.1.2.2.2
  · exact ps_good h
theorem ps_gS {own : String} {z nLy na : Nat} {y : MethodName} {cy : ByteArray} {ry : Option FieldType} (hy : ps_ys y cy nLy ry na) (hl : Cond.methodLink own z y ∈ ps_T) : GoodIn ps_T (va_wsS own z y (.code y cy nLy ry :: ps_T)) := by
  intro w hw
  simp only [va_wsS, List.cons_append, List.nil_append, List.mem_cons] at hw
  rcases hw with rfl | rfl | rfl | rfl | h
  · exact ps_good hl
  · exact ps_good hy.1.1
  · exact ps_good hy.1.2.1
  · exact ps_good hy.1.2.2
  · exact ps_good h
theorem ps_blind {μ : Type} {Y : ps_Y μ} {M : μ} {as : List Value} : FrameBlind (va_Pc as (fun U => Y.2.1 ≤ U.heap.size ∧ ps_Wd Y M U)) := fun a U g mk q => by
  obtain ⟨q0, q1, qP, qK, qD⟩ := q
  exact ⟨q0, q1, qP, va_K.moved (u := U) (U := U.calling g mk a) (Vm.Alike.refl U.vm) qK, qD⟩
theorem ps_pre {μ : Type} {Y : ps_Y μ} {M : μ} {as : List Value} {s : State} {H : Heap} (hP : va_P Y.1 vwCl (Y.2.2.2 M) H) (hK : va_K Y.1 vwCl (ps_tys Y.2.2.1) s) (hD : va_D (fun q => Y.2.1 ≤ q) (Y.2.2.2 M)) (hz : Y.2.1 ≤ H.size) : ∀ U : State, U.heap = H → s.WarmedH U.vm → va_Pc as (fun U => Y.2.1 ≤ U.heap.size ∧ ps_Wd Y M U) as.toArray U := fun U hU hW => ⟨rfl, by rw [hU]; exact hz, by rw [hU]; exact hP, va_K.moved hW.alike hK, hD⟩
/-- the receiver: a cell of the world that is an object of the class -/
def ps_rc {μ : Type} (Y : ps_Y μ) (M : μ) (b : Nat) (CN : String) : Prop := ∃ (q0 ci : Nat) (q : vw_C) (fs : List Value), vwCl[ci]? = some q ∧ q.1 = CN ∧ (Y.2.2.2 M)[q0]? = some (b, .inr (ci, fs))
theorem gw_cVi {μ ρ : Type} {Y : ps_Y μ} {X : ps_X ρ} {cc : ByteArray} {own : String} {ret : Option FieldType} {f n nL : Nat} (C : ps_C Y X cc own ret f n nL) {r : ρ} {pc : Nat} {lv : List (Nat × Value)} {st : List Value} {M : μ} (pc' : Nat) {z : Nat} (hd : decode cc pc = .ok (.invokevirtual z, 3)) (hp : pc + 3 = pc') {y : MethodName} {cy : ByteArray} {nLy fy ny na : Nat} {ry : Option FieldType} {CN : String} (hy : ps_yv y cy nLy ry CN na) (hl0 : Cond.methodLink own z y ∈ ps_T) (As : List Value) {b : Nat} (rest : List Value) (hst : st = As.reverse ++ .ref b :: rest) {r0 : Int32 × μ} (hc : ps_CI Y (ps_l X) y cy nLy ry fy ny (.ref b :: As) M r0) (hrc : ps_rc Y M b CN) (hna : As.length = na) (hcat : (rest.map fun v => v.category).sum ≤ 8) (hf : fy + 1 ≤ f) (hn : 8 + (nLy + 11) + ny ≤ n) (k : ps_G Y X r pc' lv (.int r0.1 :: rest) r0.2) : ps_G Y X r pc lv st M := by
  subst hp; subst hst
  intro H locs ls hP hD hS hl
  obtain ⟨hx, hb, hml, hnL, hown, hts, hr, hlk, hK, hb0, hfr, hlo, hce, hsl⟩ := C
  have hz : Y.2.1 ≤ H.size := Nat.le_trans hb0 hS.1
  refine va_calli (va_runV (As := As) (rest := rest) (Ts := ps_T) ⟨hx, hb, hml, hown, hts⟩ hc (cwV na hts (ps_gV hy hl0) rfl rfl rfl hy.2 ⟨Nat.le_trans hf hfr, Nat.le_trans hn hlo⟩) ⟨ps_blind, ?_, ps_pre hP hK hD hz⟩ rfl hna hl.1 rfl (lv_room hcat) hd ⟨hce, hsl⟩) hS (fun q _ h => h) (fun q h => h) (fun x u t H1 locs1 ht hvm hw hB hz1 hk1 hS1 => ?_)
  · obtain ⟨q0, ci, q, fs, h1, h2, h3⟩ := hrc
    rw [← h2]
    exact va_recv hK hP h1 h3
  · obtain ⟨hP1, hK1, hD1⟩ := hB
    rw [ht] at hP1
    subst hw
    exact k H1 locs1 ls hP1 hD1 hS1 hl
theorem gw_cVv {μ ρ : Type} {Y : ps_Y μ} {X : ps_X ρ} {cc : ByteArray} {own : String} {ret : Option FieldType} {f n nL : Nat} (C : ps_C Y X cc own ret f n nL) {r : ρ} {pc : Nat} {lv : List (Nat × Value)} {st : List Value} {M : μ} (pc' : Nat) {z : Nat} (hd : decode cc pc = .ok (.invokevirtual z, 3)) (hp : pc + 3 = pc') {y : MethodName} {cy : ByteArray} {nLy fy ny na : Nat} {CN : String} (hy : ps_yv y cy nLy none CN na) (hl0 : Cond.methodLink own z y ∈ ps_T) (As : List Value) {b : Nat} (rest : List Value) (hst : st = As.reverse ++ .ref b :: rest) {r0 : μ} (hc : ps_CV Y (ps_l X) y cy nLy fy ny (.ref b :: As) M r0) (hrc : ps_rc Y M b CN) (hna : As.length = na) (hcat : (rest.map fun v => v.category).sum ≤ 8) (hf : fy + 1 ≤ f) (hn : 8 + (nLy + 11) + ny ≤ n) (k : ps_G Y X r pc' lv rest r0) : ps_G Y X r pc lv st M := by
  subst hp; subst hst
  intro H locs ls hP hD hS hl
  obtain ⟨hx, hb, hml, hnL, hown, hts, hr, hlk, hK, hb0, hfr, hlo, hce, hsl⟩ := C
  have hz : Y.2.1 ≤ H.size := Nat.le_trans hb0 hS.1
  refine va_callv (va_runV (As := As) (rest := rest) (Ts := ps_T) ⟨hx, hb, hml, hown, hts⟩ hc (cwV na hts (ps_gV hy hl0) rfl rfl rfl hy.2 ⟨Nat.le_trans hf hfr, Nat.le_trans hn hlo⟩) ⟨ps_blind, ?_, ps_pre hP hK hD hz⟩ rfl hna hl.1 rfl (lv_room hcat) hd ⟨hce, hsl⟩) hS (fun q _ h => h) (fun q h => h) (fun u t H1 locs1 ht hvm hw hB hz1 hk1 hS1 => ?_)
  · obtain ⟨q0, ci, q, fs, h1, h2, h3⟩ := hrc
    rw [← h2]
    exact va_recv hK hP h1 h3
  · obtain ⟨hP1, hK1, hD1⟩ := hB
    rw [ht] at hP1
    exact k H1 locs1 ls hP1 hD1 hS1 hl
theorem gw_cVr {μ ρ : Type} {Y : ps_Y μ} {X : ps_X ρ} {cc : ByteArray} {own : String} {ret : Option FieldType} {f n nL : Nat} (C : ps_C Y X cc own ret f n nL) {r : ρ} {pc : Nat} {lv : List (Nat × Value)} {st : List Value} {M : μ} (pc' : Nat) {z : Nat} (hd : decode cc pc = .ok (.invokevirtual z, 3)) (hp : pc + 3 = pc') {y : MethodName} {cy : ByteArray} {nLy fy ny na : Nat} {ry : Option FieldType} {CN : String} (hy : ps_yv y cy nLy ry CN na) (hl0 : Cond.methodLink own z y ∈ ps_T) (As : List Value) {b : Nat} (rest : List Value) (hst : st = As.reverse ++ .ref b :: rest) {r0 : Nat × μ} (hc : ps_CR Y (ps_l X) y cy nLy ry fy ny (.ref b :: As) M r0) (hrc : ps_rc Y M b CN) (hna : As.length = na) (hcat : (rest.map fun v => v.category).sum ≤ 8) (hf : fy + 1 ≤ f) (hn : 8 + (nLy + 11) + ny ≤ n) (k : ps_G Y X r pc' lv (.ref r0.1 :: rest) r0.2) : ps_G Y X r pc lv st M := by
  subst hp; subst hst
  intro H locs ls hP hD hS hl
  obtain ⟨hx, hb, hml, hnL, hown, hts, hr, hlk, hK, hb0, hfr, hlo, hce, hsl⟩ := C
  have hz : Y.2.1 ≤ H.size := Nat.le_trans hb0 hS.1
  refine va_callr (va_runV (As := As) (rest := rest) (Ts := ps_T) ⟨hx, hb, hml, hown, hts⟩ hc (cwV na hts (ps_gV hy hl0) rfl rfl rfl hy.2 ⟨Nat.le_trans hf hfr, Nat.le_trans hn hlo⟩) ⟨ps_blind, ?_, ps_pre hP hK hD hz⟩ rfl hna hl.1 rfl (lv_room hcat) hd ⟨hce, hsl⟩) hS (fun q _ h => h) (fun q h => h) (fun u a t H1 locs1 ht hvm hw hB hz1 hk1 hS1 => ?_)
  · obtain ⟨q0, ci, q, fs, h1, h2, h3⟩ := hrc
    rw [← h2]
    exact va_recv hK hP h1 h3
  · obtain ⟨ha, hP1, hK1, hD1⟩ := hB
    rw [ht] at hP1
    subst ha
    exact k H1 locs1 ls hP1 hD1 hS1 hl
theorem gw_cSi {μ ρ : Type} {Y : ps_Y μ} {X : ps_X ρ} {cc : ByteArray} {own : String} {ret : Option FieldType} {f n nL : Nat} (C : ps_C Y X cc own ret f n nL) {r : ρ} {pc : Nat} {lv : List (Nat × Value)} {st : List Value} {M : μ} (pc' : Nat) {z : Nat} (hd : decode cc pc = .ok (.invokestatic z, 3)) (hp : pc + 3 = pc') {y : MethodName} {cy : ByteArray} {nLy fy ny na : Nat} {ry : Option FieldType} (hy : ps_ys y cy nLy ry na) (hl0 : Cond.methodLink own z y ∈ ps_T) (As : List Value) (rest : List Value) (hst : st = As.reverse ++ rest) {r0 : Int32 × μ} (hc : ps_CI Y (ps_l X) y cy nLy ry fy ny As M r0) (hna : As.length = na) (hcat : (rest.map fun v => v.category).sum ≤ 8) (hf : fy + 1 ≤ f) (hn : 8 + (nLy + 11) + ny ≤ n) (k : ps_G Y X r pc' lv (.int r0.1 :: rest) r0.2) : ps_G Y X r pc lv st M := by
  subst hp; subst hst
  intro H locs ls hP hD hS hl
  obtain ⟨hx, hb, hml, hnL, hown, hts, hr, hlk, hK, hb0, hfr, hlo, hce, hsl⟩ := C
  have hz : Y.2.1 ≤ H.size := Nat.le_trans hb0 hS.1
  refine va_calli (va_runS (As := As) (rest := rest) (Ts := ps_T) ⟨hx, hb, hml, hown, hts⟩ hc (va_cwS na hts (ps_gS hy hl0) rfl rfl rfl hy.2 ⟨Nat.le_trans hf hfr, Nat.le_trans hn hlo⟩) ⟨ps_blind, ps_pre hP hK hD hz⟩ rfl hna hl.1 rfl (lv_room hcat) hd ⟨hce, hsl⟩) hS (fun q _ h => h) (fun q h => h) (fun x u t H1 locs1 ht hvm hw hB hz1 hk1 hS1 => ?_)
  · obtain ⟨hP1, hK1, hD1⟩ := hB
    rw [ht] at hP1
    subst hw
    exact k H1 locs1 ls hP1 hD1 hS1 hl
theorem gw_cSv {μ ρ : Type} {Y : ps_Y μ} {X : ps_X ρ} {cc : ByteArray} {own : String} {ret : Option FieldType} {f n nL : Nat} (C : ps_C Y X cc own ret f n nL) {r : ρ} {pc : Nat} {lv : List (Nat × Value)} {st : List Value} {M : μ} (pc' : Nat) {z : Nat} (hd : decode cc pc = .ok (.invokestatic z, 3)) (hp : pc + 3 = pc') {y : MethodName} {cy : ByteArray} {nLy fy ny na : Nat} (hy : ps_ys y cy nLy none na) (hl0 : Cond.methodLink own z y ∈ ps_T) (As : List Value) (rest : List Value) (hst : st = As.reverse ++ rest) {r0 : μ} (hc : ps_CV Y (ps_l X) y cy nLy fy ny As M r0) (hna : As.length = na) (hcat : (rest.map fun v => v.category).sum ≤ 8) (hf : fy + 1 ≤ f) (hn : 8 + (nLy + 11) + ny ≤ n) (k : ps_G Y X r pc' lv rest r0) : ps_G Y X r pc lv st M := by
  subst hp; subst hst
  intro H locs ls hP hD hS hl
  obtain ⟨hx, hb, hml, hnL, hown, hts, hr, hlk, hK, hb0, hfr, hlo, hce, hsl⟩ := C
  have hz : Y.2.1 ≤ H.size := Nat.le_trans hb0 hS.1
  refine va_callv (va_runS (As := As) (rest := rest) (Ts := ps_T) ⟨hx, hb, hml, hown, hts⟩ hc (va_cwS na hts (ps_gS hy hl0) rfl rfl rfl hy.2 ⟨Nat.le_trans hf hfr, Nat.le_trans hn hlo⟩) ⟨ps_blind, ps_pre hP hK hD hz⟩ rfl hna hl.1 rfl (lv_room hcat) hd ⟨hce, hsl⟩) hS (fun q _ h => h) (fun q h => h) (fun u t H1 locs1 ht hvm hw hB hz1 hk1 hS1 => ?_)
  · obtain ⟨hP1, hK1, hD1⟩ := hB
    rw [ht] at hP1
    exact k H1 locs1 ls hP1 hD1 hS1 hl
theorem gw_cSr {μ ρ : Type} {Y : ps_Y μ} {X : ps_X ρ} {cc : ByteArray} {own : String} {ret : Option FieldType} {f n nL : Nat} (C : ps_C Y X cc own ret f n nL) {r : ρ} {pc : Nat} {lv : List (Nat × Value)} {st : List Value} {M : μ} (pc' : Nat) {z : Nat} (hd : decode cc pc = .ok (.invokestatic z, 3)) (hp : pc + 3 = pc') {y : MethodName} {cy : ByteArray} {nLy fy ny na : Nat} {ry : Option FieldType} (hy : ps_ys y cy nLy ry na) (hl0 : Cond.methodLink own z y ∈ ps_T) (As : List Value) (rest : List Value) (hst : st = As.reverse ++ rest) {r0 : Nat × μ} (hc : ps_CR Y (ps_l X) y cy nLy ry fy ny As M r0) (hna : As.length = na) (hcat : (rest.map fun v => v.category).sum ≤ 8) (hf : fy + 1 ≤ f) (hn : 8 + (nLy + 11) + ny ≤ n) (k : ps_G Y X r pc' lv (.ref r0.1 :: rest) r0.2) : ps_G Y X r pc lv st M := by
  subst hp; subst hst
  intro H locs ls hP hD hS hl
  obtain ⟨hx, hb, hml, hnL, hown, hts, hr, hlk, hK, hb0, hfr, hlo, hce, hsl⟩ := C
  have hz : Y.2.1 ≤ H.size := Nat.le_trans hb0 hS.1
  refine va_callr (va_runS (As := As) (rest := rest) (Ts := ps_T) ⟨hx, hb, hml, hown, hts⟩ hc (va_cwS na hts (ps_gS hy hl0) rfl rfl rfl hy.2 ⟨Nat.le_trans hf hfr, Nat.le_trans hn hlo⟩) ⟨ps_blind, ps_pre hP hK hD hz⟩ rfl hna hl.1 rfl (lv_room hcat) hd ⟨hce, hsl⟩) hS (fun q _ h => h) (fun q h => h) (fun u a t H1 locs1 ht hvm hw hB hz1 hk1 hS1 => ?_)
  · obtain ⟨ha, hP1, hK1, hD1⟩ := hB
    rw [ht] at hP1
    subst ha
    exact k H1 locs1 ls hP1 hD1 hS1 hl
end
section
/-! ===== THE CLASS'S CELLS: by number. 0: the object; days at 1, 28, .. 163 (27 cells each: day, row of stations, six stations each with its arrivals, row of clerks, twelve clerks); 190 total with arrivals; 192 history, 193 its row; 194 text, 195 signs, 196 numbers ===== -/
def ps_kd (k : Nat) : Nat :=
  if k = 0 then 1 else if k < 190 then (if (k - 1) % 27 = 0 then 2 else if (k - 1) % 27 = 1 then 3 else if (k - 1) % 27 < 14 then (if (k - 1) % 27 % 2 = 0 then 4 else 5) else if (k - 1) % 27 = 14 then 6 else 7)
  else if k = 190 then 4 else if k = 191 then 5 else if k = 192 then 8 else if k = 193 then 9 else if k = 194 then 10 else if k = 195 then 11 else if k = 196 then 12 else 0
def ps_fT (ad : Nat → Nat) (M : ps_M) (k : Nat) : List Value := [.ref (ad (k + 1)), .ref (ad (k + 2)), .int (M k 2)]
def ps_fK (_ : Nat → Nat) (M : ps_M) (k : Nat) : List Value := [.int (M k 0), .int (M k 1), .int (M k 2), .int (M k 3), .int (M k 4), .int (M k 5)]
def ps_fD (ad : Nat → Nat) (M : ps_M) (k : Nat) : List Value := [.int (M k 0), .int (M k 1), .int (M k 2), .ref (ad (k + 1)), .ref (ad (k + 14))]
def ps_fH (ad : Nat → Nat) (M : ps_M) (k : Nat) : List Value := [.ref (ad (k + 1)), .int (M k 1)]
def ps_fS (ad : Nat → Nat) (M : ps_M) (k : Nat) : List Value := [.ref (ad (k + 1)), .int (M k 1), .int (M k 2), .int (M k 3), .int (M k 4), .int (M k 5), .int (M k 6), .int (M k 7), .int (M k 8), .int (M k 9), .int (M k 10), .int (M k 11), .int (M k 12)]
def ps_fP (ad : Nat → Nat) (M : ps_M) (k : Nat) : List Value := [.ref (ad 1), .ref (ad 28), .ref (ad 55), .int (M k 3), .ref (ad 190), .ref (ad 192), .ref (ad 194)]
abbrev ps_rw (f : Nat → Option Nat) (c : ClassId) (n : Nat) : va_E := .inl (c, n, .inr (.inr (.inr (.inr f))))
def ps_cf (cid : Nat → ClassId) (ad : Nat → Nat) (M : ps_M) (k : Nat) : va_E := match ps_kd k with
  | 1 => .inr (5, ps_fP ad M k)
  | 2 => .inr (2, ps_fD ad M k)
  | 3 => ps_rw (fun i => some (ad (k + 1 + 2 * i))) (cid 2) 6
  | 4 => .inr (4, ps_fS ad M k)
  | 5 => .inl (cid 0, 15, .inl (M k))
  | 6 => ps_rw (fun i => some (ad (k + 1 + i))) (cid 3) 12
  | 7 => .inr (1, ps_fK ad M k)
  | 8 => .inr (3, ps_fH ad M k)
  | 9 => ps_rw (fun i => some (ad (M k i).toNatClampNeg)) (cid 4) 4
  | 10 => .inr (0, ps_fT ad M k)
  | 11 => .inl (cid 1, 60, .inl (M k))
  | 12 => .inl (cid 0, 30, .inl (M k))
  | _ => .inr (99, [])
abbrev ps_ad (E : ps_E) : Nat → Nat := E.2.2.2.1
def ps_wc (E : ps_E) (M : ps_M) : va_W := (List.range 197).map (fun k => (ps_ad E k, ps_cf E.2.2.1 (ps_ad E) M k)) ++ E.2.2.2.2
def ps_Yc (E : ps_E) : ps_Y ps_M := (E.1, E.2.1, E.2.2.1, ps_wc E)
theorem ps_kd_lt {k : Nat} (h : ps_kd k ≠ 0) : k < 197 := by
  rcases Nat.lt_or_ge k 197 with q | q
  · exact q
  · exfalso
    apply h
    unfold ps_kd
    rw [if_neg (by omega), if_neg (by omega), if_neg (by omega), if_neg (by omega), if_neg (by omega), if_neg (by omega), if_neg (by omega), if_neg (by omega), if_neg (by omega)]
theorem ps_cf_congr {cid : Nat → ClassId} {ad : Nat → Nat} {M M' : ps_M} {k : Nat} (h : M' k = M k) : ps_cf cid ad M' k = ps_cf cid ad M k := by
  unfold ps_cf ps_fT ps_fK ps_fD ps_fH ps_fS ps_fP
  rw [h]
theorem ps_wc_at (E : ps_E) (M : ps_M) {k : Nat} (hk : ps_kd k ≠ 0) : (ps_wc E M)[k]? = some (ps_ad E k, ps_cf E.2.2.1 (ps_ad E) M k) := by
  have h := ps_kd_lt hk
  unfold ps_wc
  rw [List.getElem?_append_left (by simpa using h)]
  simp [h]
theorem ps_wc_set (E : ps_E) {M M' : ps_M} {k : Nat} {e : va_E} (hk : ps_kd k ≠ 0) (he : ps_cf E.2.2.1 (ps_ad E) M' k = e) (ho : ∀ j, j ≠ k → M' j = M j) : (ps_wc E M).set k (ps_ad E k, e) = ps_wc E M' := by
  have h := ps_kd_lt hk
  unfold ps_wc
  rw [List.set_append_left _ _ (by simpa using h)]
  congr 1
  apply List.ext_getElem?
  intro j
  by_cases hj : j = k
  · subst hj
    rw [List.getElem?_set_self (by simpa using h)]
    simp [h, he]
  · rw [List.getElem?_set_ne (Ne.symm hj)]
    simp only [List.getElem?_map]
    cases hr : (List.range 197)[j]? with
    | none => rfl
    | some i =>
      have hi : i = j := by
        rw [List.getElem?_range] at hr
        · exact (Option.some.inj hr).symm
        · have := (List.getElem?_eq_some_iff.mp hr).1
          simpa using this
      subst hi
      show some (ps_ad E i, ps_cf _ _ M i) = some (ps_ad E i, ps_cf _ _ M' i)
      rw [ps_cf_congr (ho i hj)]
theorem ps_recv {E : ps_E} {M : ps_M} {k ci : Nat} {q : vw_C} {fs : List Value} (hk : ps_kd k ≠ 0) (hc : vwCl[ci]? = some q) (he : ps_cf E.2.2.1 (ps_ad E) M k = .inr (ci, fs)) : ps_rc (ps_Yc E) M (ps_ad E k) q.1 := ⟨k, ci, q, fs, hc, rfl, (ps_wc_at E M hk).trans (by rw [he])⟩
theorem ps_cf_1 {cid : Nat → ClassId} {ad : Nat → Nat} {M : ps_M} {k : Nat} (h : ps_kd k = 1) : ps_cf cid ad M k = .inr (5, ps_fP ad M k) := by unfold ps_cf; rw [h]; rfl
theorem ps_cf_2 {cid : Nat → ClassId} {ad : Nat → Nat} {M : ps_M} {k : Nat} (h : ps_kd k = 2) : ps_cf cid ad M k = .inr (2, ps_fD ad M k) := by unfold ps_cf; rw [h]; rfl
theorem ps_cf_3 {cid : Nat → ClassId} {ad : Nat → Nat} {M : ps_M} {k : Nat} (h : ps_kd k = 3) : ps_cf cid ad M k = ps_rw (fun i => some (ad (k + 1 + 2 * i))) (cid 2) 6 := by unfold ps_cf; rw [h]; rfl
theorem ps_cf_4 {cid : Nat → ClassId} {ad : Nat → Nat} {M : ps_M} {k : Nat} (h : ps_kd k = 4) : ps_cf cid ad M k = .inr (4, ps_fS ad M k) := by unfold ps_cf; rw [h]; rfl
theorem ps_cf_5 {cid : Nat → ClassId} {ad : Nat → Nat} {M : ps_M} {k : Nat} (h : ps_kd k = 5) : ps_cf cid ad M k = .inl (cid 0, 15, .inl (M k)) := by unfold ps_cf; rw [h]; rfl
theorem ps_cf_6 {cid : Nat → ClassId} {ad : Nat → Nat} {M : ps_M} {k : Nat} (h : ps_kd k = 6) : ps_cf cid ad M k = ps_rw (fun i => some (ad (k + 1 + i))) (cid 3) 12 := by unfold ps_cf; rw [h]; rfl
theorem ps_cf_7 {cid : Nat → ClassId} {ad : Nat → Nat} {M : ps_M} {k : Nat} (h : ps_kd k = 7) : ps_cf cid ad M k = .inr (1, ps_fK ad M k) := by unfold ps_cf; rw [h]; rfl
theorem ps_cf_8 {cid : Nat → ClassId} {ad : Nat → Nat} {M : ps_M} {k : Nat} (h : ps_kd k = 8) : ps_cf cid ad M k = .inr (3, ps_fH ad M k) := by unfold ps_cf; rw [h]; rfl
theorem ps_cf_9 {cid : Nat → ClassId} {ad : Nat → Nat} {M : ps_M} {k : Nat} (h : ps_kd k = 9) : ps_cf cid ad M k = ps_rw (fun i => some (ad (M k i).toNatClampNeg)) (cid 4) 4 := by unfold ps_cf; rw [h]; rfl
theorem ps_cf_10 {cid : Nat → ClassId} {ad : Nat → Nat} {M : ps_M} {k : Nat} (h : ps_kd k = 10) : ps_cf cid ad M k = .inr (0, ps_fT ad M k) := by unfold ps_cf; rw [h]; rfl
theorem ps_cf_11 {cid : Nat → ClassId} {ad : Nat → Nat} {M : ps_M} {k : Nat} (h : ps_kd k = 11) : ps_cf cid ad M k = .inl (cid 1, 60, .inl (M k)) := by unfold ps_cf; rw [h]; rfl
theorem ps_cf_12 {cid : Nat → ClassId} {ad : Nat → Nat} {M : ps_M} {k : Nat} (h : ps_kd k = 12) : ps_cf cid ad M k = .inl (cid 0, 30, .inl (M k)) := by unfold ps_cf; rw [h]; rfl
theorem ps_at_1 (E : ps_E) (M : ps_M) {k : Nat} (h : ps_kd k = 1) : (ps_wc E M)[k]? = some (ps_ad E k, .inr (5, ps_fP (ps_ad E) M k)) := (ps_wc_at E M (k := k) (by omega)).trans (by rw [ps_cf_1 h])
theorem ps_at_2 (E : ps_E) (M : ps_M) {k : Nat} (h : ps_kd k = 2) : (ps_wc E M)[k]? = some (ps_ad E k, .inr (2, ps_fD (ps_ad E) M k)) := (ps_wc_at E M (k := k) (by omega)).trans (by rw [ps_cf_2 h])
theorem ps_at_3 (E : ps_E) (M : ps_M) {k : Nat} (h : ps_kd k = 3) : (ps_wc E M)[k]? = some (ps_ad E k, ps_rw (fun i => some (ps_ad E (k + 1 + 2 * i))) (E.2.2.1 2) 6) := (ps_wc_at E M (k := k) (by omega)).trans (by rw [ps_cf_3 h])
theorem ps_at_4 (E : ps_E) (M : ps_M) {k : Nat} (h : ps_kd k = 4) : (ps_wc E M)[k]? = some (ps_ad E k, .inr (4, ps_fS (ps_ad E) M k)) := (ps_wc_at E M (k := k) (by omega)).trans (by rw [ps_cf_4 h])
theorem ps_at_5 (E : ps_E) (M : ps_M) {k : Nat} (h : ps_kd k = 5) : (ps_wc E M)[k]? = some (ps_ad E k, .inl (E.2.2.1 0, 15, .inl (M k))) := (ps_wc_at E M (k := k) (by omega)).trans (by rw [ps_cf_5 h])
theorem ps_at_6 (E : ps_E) (M : ps_M) {k : Nat} (h : ps_kd k = 6) : (ps_wc E M)[k]? = some (ps_ad E k, ps_rw (fun i => some (ps_ad E (k + 1 + i))) (E.2.2.1 3) 12) := (ps_wc_at E M (k := k) (by omega)).trans (by rw [ps_cf_6 h])
theorem ps_at_7 (E : ps_E) (M : ps_M) {k : Nat} (h : ps_kd k = 7) : (ps_wc E M)[k]? = some (ps_ad E k, .inr (1, ps_fK (ps_ad E) M k)) := (ps_wc_at E M (k := k) (by omega)).trans (by rw [ps_cf_7 h])
theorem ps_at_8 (E : ps_E) (M : ps_M) {k : Nat} (h : ps_kd k = 8) : (ps_wc E M)[k]? = some (ps_ad E k, .inr (3, ps_fH (ps_ad E) M k)) := (ps_wc_at E M (k := k) (by omega)).trans (by rw [ps_cf_8 h])
theorem ps_at_9 (E : ps_E) (M : ps_M) {k : Nat} (h : ps_kd k = 9) : (ps_wc E M)[k]? = some (ps_ad E k, ps_rw (fun i => some (ps_ad E (M k i).toNatClampNeg)) (E.2.2.1 4) 4) := (ps_wc_at E M (k := k) (by omega)).trans (by rw [ps_cf_9 h])
theorem ps_at_10 (E : ps_E) (M : ps_M) {k : Nat} (h : ps_kd k = 10) : (ps_wc E M)[k]? = some (ps_ad E k, .inr (0, ps_fT (ps_ad E) M k)) := (ps_wc_at E M (k := k) (by omega)).trans (by rw [ps_cf_10 h])
theorem ps_at_11 (E : ps_E) (M : ps_M) {k : Nat} (h : ps_kd k = 11) : (ps_wc E M)[k]? = some (ps_ad E k, .inl (E.2.2.1 1, 60, .inl (M k))) := (ps_wc_at E M (k := k) (by omega)).trans (by rw [ps_cf_11 h])
theorem ps_at_12 (E : ps_E) (M : ps_M) {k : Nat} (h : ps_kd k = 12) : (ps_wc E M)[k]? = some (ps_ad E k, .inl (E.2.2.1 0, 30, .inl (M k))) := (ps_wc_at E M (k := k) (by omega)).trans (by rw [ps_cf_12 h])
/-! kinds of the cells that a reference leads to -/
theorem kd_d1 {d : Nat} (h : ps_kd d = 2) : ps_kd (d + 1) = 3 := by
  have hl := ps_kd_lt (k := d) (by omega)
  revert h; revert d; decide +kernel
theorem kd_d14 {d : Nat} (h : ps_kd d = 2) : ps_kd (d + 14) = 6 := by
  have hl := ps_kd_lt (k := d) (by omega)
  revert h; revert d; decide +kernel
theorem kd_s1 {d : Nat} (h : ps_kd d = 4) : ps_kd (d + 1) = 5 := by
  have hl := ps_kd_lt (k := d) (by omega)
  revert h; revert d; decide +kernel
theorem kd_S0 : ∀ d : Nat, d < 197 → ps_kd d = 3 → ∀ i, i < 6 → ps_kd (d + 1 + 2 * i) = 4 := by decide +kernel
theorem kd_K0 : ∀ d : Nat, d < 197 → ps_kd d = 6 → ∀ i, i < 12 → ps_kd (d + 1 + i) = 7 := by decide +kernel
theorem ps_vlt {x : Int32} {n : Nat} (h : vp_in x n) : x.toNatClampNeg < n := Nat.not_le.mp fun q => h (Or.inr q)
theorem kd_S {d : Nat} (h : ps_kd d = 3) {x : Int32} (hx : vp_in x 6) : ps_kd (d + 1 + 2 * x.toNatClampNeg) = 4 := kd_S0 d (ps_kd_lt (by omega)) h _ (ps_vlt hx)
theorem kd_K {d : Nat} (h : ps_kd d = 6) {x : Int32} (hx : vp_in x 12) : ps_kd (d + 1 + x.toNatClampNeg) = 7 := kd_K0 d (ps_kd_lt (by omega)) h _ (ps_vlt hx)
theorem kd_h1 {d : Nat} (h : ps_kd d = 8) : ps_kd (d + 1) = 9 := by
  have hl := ps_kd_lt (k := d) (by omega)
  revert h; revert d; decide +kernel
theorem kd_t1 {d : Nat} (h : ps_kd d = 10) : ps_kd (d + 1) = 11 := by
  have hl := ps_kd_lt (k := d) (by omega)
  revert h; revert d; decide +kernel
theorem kd_t2 {d : Nat} (h : ps_kd d = 10) : ps_kd (d + 2) = 12 := by
  have hl := ps_kd_lt (k := d) (by omega)
  revert h; revert d; decide +kernel
theorem gw_getT {E : ps_E} {ρ : Type} {X : ps_X ρ} {cc : ByteArray} {own : String} {ret : Option FieldType} {f n nL : Nat} (C : ps_C (ps_Yc E) X cc own ret f n nL) {r : ρ} {pc : Nat} {lv : List (Nat × Value)} {st : List Value} {M : ps_M} (pc' : Nat) {z : Nat} (hd : decode cc pc = .ok (.getfield z, 3)) (hp : pc + 3 = pc') {d : Nat} (hk : ps_kd d = 10) (j : Nat) (hj : j < 3) (hw : Cond.fieldLink own z RX0 (TX0 j).2.1 (TX0 j).2.2.1 ∈ ps_T) (hs : (TX0 j).1 = RX0) {v : Value} (hv : (ps_fT (ps_ad E) M d)[j]? = some v) (k : ps_G (ps_Yc E) X r pc' lv (v :: st) M) : ps_G (ps_Yc E) X r pc lv (.ref (ps_ad E d) :: st) M := by
  subst hp
  intro H locs ls hP hD hS hl
  obtain ⟨hx, hb, hml, hnL, hown, hts, hr, hlk, hK, hb0, hfr, hlo, hce, hsl⟩ := C
  exact va_get (D := E.1) (ci := 0) (C := RX0) (T := TX0) (N := 3) hx hb hts hinX0 hown hK hP d (ps_at_10 E M hk) rfl j hj (hts _ hw) (fun x h => by rw [← hs]; exact h) hv hd (k H locs ls hP hD hS hl)
theorem ps_setT {E : ps_E} {M : ps_M} {d : Nat} (hk : ps_kd d = 10) {j : Nat} (hj : j = 2) (v : Int32) : (ps_wc E M).set d (ps_ad E d, .inr (0, (ps_fT (ps_ad E) M d).set j (.int v))) = ps_wc E (ps_st M d j v) := by
  refine ps_wc_set E (by omega) ?_ (fun i hi => ps_st_ne hi)
  rw [ps_cf_10 hk]
  rcases hj with rfl <;> simp [ps_fT, ps_st]
theorem gw_putT {E : ps_E} {ρ : Type} {X : ps_X ρ} {cc : ByteArray} {own : String} {ret : Option FieldType} {f n nL : Nat} (C : ps_C (ps_Yc E) X cc own ret f n nL) {r : ρ} {pc : Nat} {lv : List (Nat × Value)} {st : List Value} {M : ps_M} (pc' : Nat) {z : Nat} (hd : decode cc pc = .ok (.putfield z, 3)) (hp : pc + 3 = pc') {d : Nat} (hk : ps_kd d = 10) (j : Nat) (hj : j = 2) (hw : Cond.fieldLink own z RX0 (TX0 j).2.1 (TX0 j).2.2.1 ∈ ps_T) (hs : (TX0 j).1 = RX0) {ty : FieldType} (hfin : (TX0 j).2.2.2 = false) (hty : parseFieldDescriptor (TX0 j).2.2.1 = some ty) {v : Int32} (hn9 : narrow ty (.int v) = .int v) (hfit : fits ty (.int v) = true) (k : ps_G (ps_Yc E) X r pc' lv st (ps_st M d j v)) : ps_G (ps_Yc E) X r pc lv (.int v :: .ref (ps_ad E d) :: st) M := by
  subst hp
  intro H locs ls hP hD hS hl
  obtain ⟨hx, hb, hml, hnL, hown, hts, hr, hlk, hK, hb0, hfr, hlo, hce, hsl⟩ := C
  refine va_put (D := E.1) (ci := 0) (C := RX0) (T := TX0) (N := 3) hx hb hts hinX0 tyX0 tyX0_ok nmX0 hown hK hP hD hS d (ps_at_10 E M hk) rfl j (by omega) (hts _ hw) (fun x h => by rw [← hs]; exact h) hfin hty hn9 hfit (by show j < 3; omega) hd (fun H1 locs1 hP1 hD1 hS1 => ?_)
  have e := ps_setT (E := E) (M := M) hk hj v
  exact k H1 locs1 ls (by show va_P _ _ (ps_wc E _) _; rw [← e]; exact hP1) (by show va_D _ (ps_wc E _); rw [← e]; exact hD1) hS1 hl
theorem gw_getK {E : ps_E} {ρ : Type} {X : ps_X ρ} {cc : ByteArray} {own : String} {ret : Option FieldType} {f n nL : Nat} (C : ps_C (ps_Yc E) X cc own ret f n nL) {r : ρ} {pc : Nat} {lv : List (Nat × Value)} {st : List Value} {M : ps_M} (pc' : Nat) {z : Nat} (hd : decode cc pc = .ok (.getfield z, 3)) (hp : pc + 3 = pc') {d : Nat} (hk : ps_kd d = 7) (j : Nat) (hj : j < 6) (hw : Cond.fieldLink own z RX1 (TX1 j).2.1 (TX1 j).2.2.1 ∈ ps_T) (hs : (TX1 j).1 = RX1) {v : Value} (hv : (ps_fK (ps_ad E) M d)[j]? = some v) (k : ps_G (ps_Yc E) X r pc' lv (v :: st) M) : ps_G (ps_Yc E) X r pc lv (.ref (ps_ad E d) :: st) M := by
  subst hp
  intro H locs ls hP hD hS hl
  obtain ⟨hx, hb, hml, hnL, hown, hts, hr, hlk, hK, hb0, hfr, hlo, hce, hsl⟩ := C
  exact va_get (D := E.1) (ci := 1) (C := RX1) (T := TX1) (N := 6) hx hb hts hinX1 hown hK hP d (ps_at_7 E M hk) rfl j hj (hts _ hw) (fun x h => by rw [← hs]; exact h) hv hd (k H locs ls hP hD hS hl)
theorem ps_setK {E : ps_E} {M : ps_M} {d : Nat} (hk : ps_kd d = 7) {j : Nat} (hj : j = 0 ∨ j = 1 ∨ j = 2 ∨ j = 3 ∨ j = 4 ∨ j = 5) (v : Int32) : (ps_wc E M).set d (ps_ad E d, .inr (1, (ps_fK (ps_ad E) M d).set j (.int v))) = ps_wc E (ps_st M d j v) := by
  refine ps_wc_set E (by omega) ?_ (fun i hi => ps_st_ne hi)
  rw [ps_cf_7 hk]
  rcases hj with rfl | rfl | rfl | rfl | rfl | rfl <;> simp [ps_fK, ps_st]
theorem gw_putK {E : ps_E} {ρ : Type} {X : ps_X ρ} {cc : ByteArray} {own : String} {ret : Option FieldType} {f n nL : Nat} (C : ps_C (ps_Yc E) X cc own ret f n nL) {r : ρ} {pc : Nat} {lv : List (Nat × Value)} {st : List Value} {M : ps_M} (pc' : Nat) {z : Nat} (hd : decode cc pc = .ok (.putfield z, 3)) (hp : pc + 3 = pc') {d : Nat} (hk : ps_kd d = 7) (j : Nat) (hj : j = 0 ∨ j = 1 ∨ j = 2 ∨ j = 3 ∨ j = 4 ∨ j = 5) (hw : Cond.fieldLink own z RX1 (TX1 j).2.1 (TX1 j).2.2.1 ∈ ps_T) (hs : (TX1 j).1 = RX1) {ty : FieldType} (hfin : (TX1 j).2.2.2 = false) (hty : parseFieldDescriptor (TX1 j).2.2.1 = some ty) {v : Int32} (hn9 : narrow ty (.int v) = .int v) (hfit : fits ty (.int v) = true) (k : ps_G (ps_Yc E) X r pc' lv st (ps_st M d j v)) : ps_G (ps_Yc E) X r pc lv (.int v :: .ref (ps_ad E d) :: st) M := by
  subst hp
  intro H locs ls hP hD hS hl
  obtain ⟨hx, hb, hml, hnL, hown, hts, hr, hlk, hK, hb0, hfr, hlo, hce, hsl⟩ := C
  refine va_put (D := E.1) (ci := 1) (C := RX1) (T := TX1) (N := 6) hx hb hts hinX1 tyX1 tyX1_ok nmX1 hown hK hP hD hS d (ps_at_7 E M hk) rfl j (by omega) (hts _ hw) (fun x h => by rw [← hs]; exact h) hfin hty hn9 hfit (by show j < 6; omega) hd (fun H1 locs1 hP1 hD1 hS1 => ?_)
  have e := ps_setK (E := E) (M := M) hk hj v
  exact k H1 locs1 ls (by show va_P _ _ (ps_wc E _) _; rw [← e]; exact hP1) (by show va_D _ (ps_wc E _); rw [← e]; exact hD1) hS1 hl
theorem gw_getD {E : ps_E} {ρ : Type} {X : ps_X ρ} {cc : ByteArray} {own : String} {ret : Option FieldType} {f n nL : Nat} (C : ps_C (ps_Yc E) X cc own ret f n nL) {r : ρ} {pc : Nat} {lv : List (Nat × Value)} {st : List Value} {M : ps_M} (pc' : Nat) {z : Nat} (hd : decode cc pc = .ok (.getfield z, 3)) (hp : pc + 3 = pc') {d : Nat} (hk : ps_kd d = 2) (j : Nat) (hj : j < 5) (hw : Cond.fieldLink own z RX2 (TX2 j).2.1 (TX2 j).2.2.1 ∈ ps_T) (hs : (TX2 j).1 = RX2) {v : Value} (hv : (ps_fD (ps_ad E) M d)[j]? = some v) (k : ps_G (ps_Yc E) X r pc' lv (v :: st) M) : ps_G (ps_Yc E) X r pc lv (.ref (ps_ad E d) :: st) M := by
  subst hp
  intro H locs ls hP hD hS hl
  obtain ⟨hx, hb, hml, hnL, hown, hts, hr, hlk, hK, hb0, hfr, hlo, hce, hsl⟩ := C
  exact va_get (D := E.1) (ci := 2) (C := RX2) (T := TX2) (N := 5) hx hb hts hinX2 hown hK hP d (ps_at_2 E M hk) rfl j hj (hts _ hw) (fun x h => by rw [← hs]; exact h) hv hd (k H locs ls hP hD hS hl)
theorem ps_setD {E : ps_E} {M : ps_M} {d : Nat} (hk : ps_kd d = 2) {j : Nat} (hj : j = 0 ∨ j = 1 ∨ j = 2) (v : Int32) : (ps_wc E M).set d (ps_ad E d, .inr (2, (ps_fD (ps_ad E) M d).set j (.int v))) = ps_wc E (ps_st M d j v) := by
  refine ps_wc_set E (by omega) ?_ (fun i hi => ps_st_ne hi)
  rw [ps_cf_2 hk]
  rcases hj with rfl | rfl | rfl <;> simp [ps_fD, ps_st]
theorem gw_putD {E : ps_E} {ρ : Type} {X : ps_X ρ} {cc : ByteArray} {own : String} {ret : Option FieldType} {f n nL : Nat} (C : ps_C (ps_Yc E) X cc own ret f n nL) {r : ρ} {pc : Nat} {lv : List (Nat × Value)} {st : List Value} {M : ps_M} (pc' : Nat) {z : Nat} (hd : decode cc pc = .ok (.putfield z, 3)) (hp : pc + 3 = pc') {d : Nat} (hk : ps_kd d = 2) (j : Nat) (hj : j = 0 ∨ j = 1 ∨ j = 2) (hw : Cond.fieldLink own z RX2 (TX2 j).2.1 (TX2 j).2.2.1 ∈ ps_T) (hs : (TX2 j).1 = RX2) {ty : FieldType} (hfin : (TX2 j).2.2.2 = false) (hty : parseFieldDescriptor (TX2 j).2.2.1 = some ty) {v : Int32} (hn9 : narrow ty (.int v) = .int v) (hfit : fits ty (.int v) = true) (k : ps_G (ps_Yc E) X r pc' lv st (ps_st M d j v)) : ps_G (ps_Yc E) X r pc lv (.int v :: .ref (ps_ad E d) :: st) M := by
  subst hp
  intro H locs ls hP hD hS hl
  obtain ⟨hx, hb, hml, hnL, hown, hts, hr, hlk, hK, hb0, hfr, hlo, hce, hsl⟩ := C
  refine va_put (D := E.1) (ci := 2) (C := RX2) (T := TX2) (N := 5) hx hb hts hinX2 tyX2 tyX2_ok nmX2 hown hK hP hD hS d (ps_at_2 E M hk) rfl j (by omega) (hts _ hw) (fun x h => by rw [← hs]; exact h) hfin hty hn9 hfit (by show j < 5; omega) hd (fun H1 locs1 hP1 hD1 hS1 => ?_)
  have e := ps_setD (E := E) (M := M) hk hj v
  exact k H1 locs1 ls (by show va_P _ _ (ps_wc E _) _; rw [← e]; exact hP1) (by show va_D _ (ps_wc E _); rw [← e]; exact hD1) hS1 hl
theorem gw_getH {E : ps_E} {ρ : Type} {X : ps_X ρ} {cc : ByteArray} {own : String} {ret : Option FieldType} {f n nL : Nat} (C : ps_C (ps_Yc E) X cc own ret f n nL) {r : ρ} {pc : Nat} {lv : List (Nat × Value)} {st : List Value} {M : ps_M} (pc' : Nat) {z : Nat} (hd : decode cc pc = .ok (.getfield z, 3)) (hp : pc + 3 = pc') {d : Nat} (hk : ps_kd d = 8) (j : Nat) (hj : j < 2) (hw : Cond.fieldLink own z RX3 (TX3 j).2.1 (TX3 j).2.2.1 ∈ ps_T) (hs : (TX3 j).1 = RX3) {v : Value} (hv : (ps_fH (ps_ad E) M d)[j]? = some v) (k : ps_G (ps_Yc E) X r pc' lv (v :: st) M) : ps_G (ps_Yc E) X r pc lv (.ref (ps_ad E d) :: st) M := by
  subst hp
  intro H locs ls hP hD hS hl
  obtain ⟨hx, hb, hml, hnL, hown, hts, hr, hlk, hK, hb0, hfr, hlo, hce, hsl⟩ := C
  exact va_get (D := E.1) (ci := 3) (C := RX3) (T := TX3) (N := 2) hx hb hts hinX3 hown hK hP d (ps_at_8 E M hk) rfl j hj (hts _ hw) (fun x h => by rw [← hs]; exact h) hv hd (k H locs ls hP hD hS hl)
theorem ps_setH {E : ps_E} {M : ps_M} {d : Nat} (hk : ps_kd d = 8) {j : Nat} (hj : j = 1) (v : Int32) : (ps_wc E M).set d (ps_ad E d, .inr (3, (ps_fH (ps_ad E) M d).set j (.int v))) = ps_wc E (ps_st M d j v) := by
  refine ps_wc_set E (by omega) ?_ (fun i hi => ps_st_ne hi)
  rw [ps_cf_8 hk]
  rcases hj with rfl <;> simp [ps_fH, ps_st]
theorem gw_putH {E : ps_E} {ρ : Type} {X : ps_X ρ} {cc : ByteArray} {own : String} {ret : Option FieldType} {f n nL : Nat} (C : ps_C (ps_Yc E) X cc own ret f n nL) {r : ρ} {pc : Nat} {lv : List (Nat × Value)} {st : List Value} {M : ps_M} (pc' : Nat) {z : Nat} (hd : decode cc pc = .ok (.putfield z, 3)) (hp : pc + 3 = pc') {d : Nat} (hk : ps_kd d = 8) (j : Nat) (hj : j = 1) (hw : Cond.fieldLink own z RX3 (TX3 j).2.1 (TX3 j).2.2.1 ∈ ps_T) (hs : (TX3 j).1 = RX3) {ty : FieldType} (hfin : (TX3 j).2.2.2 = false) (hty : parseFieldDescriptor (TX3 j).2.2.1 = some ty) {v : Int32} (hn9 : narrow ty (.int v) = .int v) (hfit : fits ty (.int v) = true) (k : ps_G (ps_Yc E) X r pc' lv st (ps_st M d j v)) : ps_G (ps_Yc E) X r pc lv (.int v :: .ref (ps_ad E d) :: st) M := by
  subst hp
  intro H locs ls hP hD hS hl
  obtain ⟨hx, hb, hml, hnL, hown, hts, hr, hlk, hK, hb0, hfr, hlo, hce, hsl⟩ := C
  refine va_put (D := E.1) (ci := 3) (C := RX3) (T := TX3) (N := 2) hx hb hts hinX3 tyX3 tyX3_ok nmX3 hown hK hP hD hS d (ps_at_8 E M hk) rfl j (by omega) (hts _ hw) (fun x h => by rw [← hs]; exact h) hfin hty hn9 hfit (by show j < 2; omega) hd (fun H1 locs1 hP1 hD1 hS1 => ?_)
  have e := ps_setH (E := E) (M := M) hk hj v
  exact k H1 locs1 ls (by show va_P _ _ (ps_wc E _) _; rw [← e]; exact hP1) (by show va_D _ (ps_wc E _); rw [← e]; exact hD1) hS1 hl
theorem gw_getS {E : ps_E} {ρ : Type} {X : ps_X ρ} {cc : ByteArray} {own : String} {ret : Option FieldType} {f n nL : Nat} (C : ps_C (ps_Yc E) X cc own ret f n nL) {r : ρ} {pc : Nat} {lv : List (Nat × Value)} {st : List Value} {M : ps_M} (pc' : Nat) {z : Nat} (hd : decode cc pc = .ok (.getfield z, 3)) (hp : pc + 3 = pc') {d : Nat} (hk : ps_kd d = 4) (j : Nat) (hj : j < 13) (hw : Cond.fieldLink own z RX4 (TX4 j).2.1 (TX4 j).2.2.1 ∈ ps_T) (hs : (TX4 j).1 = RX4) {v : Value} (hv : (ps_fS (ps_ad E) M d)[j]? = some v) (k : ps_G (ps_Yc E) X r pc' lv (v :: st) M) : ps_G (ps_Yc E) X r pc lv (.ref (ps_ad E d) :: st) M := by
  subst hp
  intro H locs ls hP hD hS hl
  obtain ⟨hx, hb, hml, hnL, hown, hts, hr, hlk, hK, hb0, hfr, hlo, hce, hsl⟩ := C
  exact va_get (D := E.1) (ci := 4) (C := RX4) (T := TX4) (N := 13) hx hb hts hinX4 hown hK hP d (ps_at_4 E M hk) rfl j hj (hts _ hw) (fun x h => by rw [← hs]; exact h) hv hd (k H locs ls hP hD hS hl)
theorem ps_setS {E : ps_E} {M : ps_M} {d : Nat} (hk : ps_kd d = 4) {j : Nat} (hj : j = 1 ∨ j = 2 ∨ j = 3 ∨ j = 4 ∨ j = 5 ∨ j = 6 ∨ j = 7 ∨ j = 8 ∨ j = 9 ∨ j = 10 ∨ j = 11 ∨ j = 12) (v : Int32) : (ps_wc E M).set d (ps_ad E d, .inr (4, (ps_fS (ps_ad E) M d).set j (.int v))) = ps_wc E (ps_st M d j v) := by
  refine ps_wc_set E (by omega) ?_ (fun i hi => ps_st_ne hi)
  rw [ps_cf_4 hk]
  rcases hj with rfl | rfl | rfl | rfl | rfl | rfl | rfl | rfl | rfl | rfl | rfl | rfl <;> simp [ps_fS, ps_st]
theorem gw_putS {E : ps_E} {ρ : Type} {X : ps_X ρ} {cc : ByteArray} {own : String} {ret : Option FieldType} {f n nL : Nat} (C : ps_C (ps_Yc E) X cc own ret f n nL) {r : ρ} {pc : Nat} {lv : List (Nat × Value)} {st : List Value} {M : ps_M} (pc' : Nat) {z : Nat} (hd : decode cc pc = .ok (.putfield z, 3)) (hp : pc + 3 = pc') {d : Nat} (hk : ps_kd d = 4) (j : Nat) (hj : j = 1 ∨ j = 2 ∨ j = 3 ∨ j = 4 ∨ j = 5 ∨ j = 6 ∨ j = 7 ∨ j = 8 ∨ j = 9 ∨ j = 10 ∨ j = 11 ∨ j = 12) (hw : Cond.fieldLink own z RX4 (TX4 j).2.1 (TX4 j).2.2.1 ∈ ps_T) (hs : (TX4 j).1 = RX4) {ty : FieldType} (hfin : (TX4 j).2.2.2 = false) (hty : parseFieldDescriptor (TX4 j).2.2.1 = some ty) {v : Int32} (hn9 : narrow ty (.int v) = .int v) (hfit : fits ty (.int v) = true) (k : ps_G (ps_Yc E) X r pc' lv st (ps_st M d j v)) : ps_G (ps_Yc E) X r pc lv (.int v :: .ref (ps_ad E d) :: st) M := by
  subst hp
  intro H locs ls hP hD hS hl
  obtain ⟨hx, hb, hml, hnL, hown, hts, hr, hlk, hK, hb0, hfr, hlo, hce, hsl⟩ := C
  refine va_put (D := E.1) (ci := 4) (C := RX4) (T := TX4) (N := 13) hx hb hts hinX4 tyX4 tyX4_ok nmX4 hown hK hP hD hS d (ps_at_4 E M hk) rfl j (by omega) (hts _ hw) (fun x h => by rw [← hs]; exact h) hfin hty hn9 hfit (by show j < 13; omega) hd (fun H1 locs1 hP1 hD1 hS1 => ?_)
  have e := ps_setS (E := E) (M := M) hk hj v
  exact k H1 locs1 ls (by show va_P _ _ (ps_wc E _) _; rw [← e]; exact hP1) (by show va_D _ (ps_wc E _); rw [← e]; exact hD1) hS1 hl
theorem gw_getP {E : ps_E} {ρ : Type} {X : ps_X ρ} {cc : ByteArray} {own : String} {ret : Option FieldType} {f n nL : Nat} (C : ps_C (ps_Yc E) X cc own ret f n nL) {r : ρ} {pc : Nat} {lv : List (Nat × Value)} {st : List Value} {M : ps_M} (pc' : Nat) {z : Nat} (hd : decode cc pc = .ok (.getfield z, 3)) (hp : pc + 3 = pc') {d : Nat} (hk : ps_kd d = 1) (j : Nat) (hj : j < 7) (hw : Cond.fieldLink own z RX5 (TX5 j).2.1 (TX5 j).2.2.1 ∈ ps_T) (hs : (TX5 j).1 = RX5) {v : Value} (hv : (ps_fP (ps_ad E) M d)[j]? = some v) (k : ps_G (ps_Yc E) X r pc' lv (v :: st) M) : ps_G (ps_Yc E) X r pc lv (.ref (ps_ad E d) :: st) M := by
  subst hp
  intro H locs ls hP hD hS hl
  obtain ⟨hx, hb, hml, hnL, hown, hts, hr, hlk, hK, hb0, hfr, hlo, hce, hsl⟩ := C
  exact va_get (D := E.1) (ci := 5) (C := RX5) (T := TX5) (N := 7) hx hb hts hinX5 hown hK hP d (ps_at_1 E M hk) rfl j hj (hts _ hw) (fun x h => by rw [← hs]; exact h) hv hd (k H locs ls hP hD hS hl)
theorem ps_setP {E : ps_E} {M : ps_M} {d : Nat} (hk : ps_kd d = 1) {j : Nat} (hj : j = 3) (v : Int32) : (ps_wc E M).set d (ps_ad E d, .inr (5, (ps_fP (ps_ad E) M d).set j (.int v))) = ps_wc E (ps_st M d j v) := by
  refine ps_wc_set E (by omega) ?_ (fun i hi => ps_st_ne hi)
  rw [ps_cf_1 hk]
  rcases hj with rfl <;> simp [ps_fP, ps_st]
theorem gw_putP {E : ps_E} {ρ : Type} {X : ps_X ρ} {cc : ByteArray} {own : String} {ret : Option FieldType} {f n nL : Nat} (C : ps_C (ps_Yc E) X cc own ret f n nL) {r : ρ} {pc : Nat} {lv : List (Nat × Value)} {st : List Value} {M : ps_M} (pc' : Nat) {z : Nat} (hd : decode cc pc = .ok (.putfield z, 3)) (hp : pc + 3 = pc') {d : Nat} (hk : ps_kd d = 1) (j : Nat) (hj : j = 3) (hw : Cond.fieldLink own z RX5 (TX5 j).2.1 (TX5 j).2.2.1 ∈ ps_T) (hs : (TX5 j).1 = RX5) {ty : FieldType} (hfin : (TX5 j).2.2.2 = false) (hty : parseFieldDescriptor (TX5 j).2.2.1 = some ty) {v : Int32} (hn9 : narrow ty (.int v) = .int v) (hfit : fits ty (.int v) = true) (k : ps_G (ps_Yc E) X r pc' lv st (ps_st M d j v)) : ps_G (ps_Yc E) X r pc lv (.int v :: .ref (ps_ad E d) :: st) M := by
  subst hp
  intro H locs ls hP hD hS hl
  obtain ⟨hx, hb, hml, hnL, hown, hts, hr, hlk, hK, hb0, hfr, hlo, hce, hsl⟩ := C
  refine va_put (D := E.1) (ci := 5) (C := RX5) (T := TX5) (N := 7) hx hb hts hinX5 tyX5 tyX5_ok nmX5 hown hK hP hD hS d (ps_at_1 E M hk) rfl j (by omega) (hts _ hw) (fun x h => by rw [← hs]; exact h) hfin hty hn9 hfit (by show j < 7; omega) hd (fun H1 locs1 hP1 hD1 hS1 => ?_)
  have e := ps_setP (E := E) (M := M) hk hj v
  exact k H1 locs1 ls (by show va_P _ _ (ps_wc E _) _; rw [← e]; exact hP1) (by show va_D _ (ps_wc E _); rw [← e]; exact hD1) hS1 hl
theorem gw_ld_i15 {E : ps_E} {ρ : Type} {X : ps_X ρ} {cc : ByteArray} {own : String} {ret : Option FieldType} {f n nL : Nat} (C : ps_C (ps_Yc E) X cc own ret f n nL) {r : ρ} {pc : Nat} {lv : List (Nat × Value)} {st : List Value} {M : ps_M} (pc' : Nat) (hd : decode cc pc = .ok (.iaload, 1)) (hp : pc + 1 = pc') {d : Nat} (hk : ps_kd d = 5) {i : Int32} (hi : vp_in i 15) (k : ps_G (ps_Yc E) X r pc' lv (.int (M d i.toNatClampNeg) :: st) M) : ps_G (ps_Yc E) X r pc lv (.int i :: .ref (ps_ad E d) :: st) M := by
  subst hp
  intro H locs ls hP hD hS hl
  obtain ⟨hx, hb, hml, hnL, hown, hts, hr, hlk, hK, hb0, hfr, hlo, hce, hsl⟩ := C
  exact va_iald (D := E.1) hx hb hK hP d 0 (ps_at_5 E M hk) rfl hi hd (k H locs ls hP hD hS hl)
theorem gw_sv_i15 {E : ps_E} {ρ : Type} {X : ps_X ρ} {cc : ByteArray} {own : String} {ret : Option FieldType} {f n nL : Nat} (C : ps_C (ps_Yc E) X cc own ret f n nL) {r : ρ} {pc : Nat} {lv : List (Nat × Value)} {st : List Value} {M : ps_M} (pc' : Nat) (hd : decode cc pc = .ok (.iastore, 1)) (hp : pc + 1 = pc') {d : Nat} (hk : ps_kd d = 5) {i x : Int32} (hi : vp_in i 15) (k : ps_G (ps_Yc E) X r pc' lv st (ps_st M d i.toNatClampNeg x)) : ps_G (ps_Yc E) X r pc lv (.int x :: .int i :: .ref (ps_ad E d) :: st) M := by
  subst hp
  intro H locs ls hP hD hS hl
  obtain ⟨hx, hb, hml, hnL, hown, hts, hr, hlk, hK, hb0, hfr, hlo, hce, hsl⟩ := C
  refine va_iast (D := E.1) hx hb hK hP hD hS d 0 (ps_at_5 E M hk) rfl hi hd (fun H1 locs1 hP1 hD1 hS1 => ?_)
  have e : (ps_wc E M).set d (ps_ad E d, .inl (E.2.2.1 0, 15, .inl (upd (M d) i.toNatClampNeg x))) = ps_wc E (ps_st M d i.toNatClampNeg x) := ps_wc_set E (by omega) (by rw [ps_cf_5 hk, ps_st_self]) (fun j hj => ps_st_ne hj)
  exact k H1 locs1 ls (by show va_P _ _ (ps_wc E _) _; rw [← e]; exact hP1) (by show va_D _ (ps_wc E _); rw [← e]; exact hD1) hS1 hl
theorem gw_ld_i30 {E : ps_E} {ρ : Type} {X : ps_X ρ} {cc : ByteArray} {own : String} {ret : Option FieldType} {f n nL : Nat} (C : ps_C (ps_Yc E) X cc own ret f n nL) {r : ρ} {pc : Nat} {lv : List (Nat × Value)} {st : List Value} {M : ps_M} (pc' : Nat) (hd : decode cc pc = .ok (.iaload, 1)) (hp : pc + 1 = pc') {d : Nat} (hk : ps_kd d = 12) {i : Int32} (hi : vp_in i 30) (k : ps_G (ps_Yc E) X r pc' lv (.int (M d i.toNatClampNeg) :: st) M) : ps_G (ps_Yc E) X r pc lv (.int i :: .ref (ps_ad E d) :: st) M := by
  subst hp
  intro H locs ls hP hD hS hl
  obtain ⟨hx, hb, hml, hnL, hown, hts, hr, hlk, hK, hb0, hfr, hlo, hce, hsl⟩ := C
  exact va_iald (D := E.1) hx hb hK hP d 0 (ps_at_12 E M hk) rfl hi hd (k H locs ls hP hD hS hl)
theorem gw_sv_i30 {E : ps_E} {ρ : Type} {X : ps_X ρ} {cc : ByteArray} {own : String} {ret : Option FieldType} {f n nL : Nat} (C : ps_C (ps_Yc E) X cc own ret f n nL) {r : ρ} {pc : Nat} {lv : List (Nat × Value)} {st : List Value} {M : ps_M} (pc' : Nat) (hd : decode cc pc = .ok (.iastore, 1)) (hp : pc + 1 = pc') {d : Nat} (hk : ps_kd d = 12) {i x : Int32} (hi : vp_in i 30) (k : ps_G (ps_Yc E) X r pc' lv st (ps_st M d i.toNatClampNeg x)) : ps_G (ps_Yc E) X r pc lv (.int x :: .int i :: .ref (ps_ad E d) :: st) M := by
  subst hp
  intro H locs ls hP hD hS hl
  obtain ⟨hx, hb, hml, hnL, hown, hts, hr, hlk, hK, hb0, hfr, hlo, hce, hsl⟩ := C
  refine va_iast (D := E.1) hx hb hK hP hD hS d 0 (ps_at_12 E M hk) rfl hi hd (fun H1 locs1 hP1 hD1 hS1 => ?_)
  have e : (ps_wc E M).set d (ps_ad E d, .inl (E.2.2.1 0, 30, .inl (upd (M d) i.toNatClampNeg x))) = ps_wc E (ps_st M d i.toNatClampNeg x) := ps_wc_set E (by omega) (by rw [ps_cf_12 hk, ps_st_self]) (fun j hj => ps_st_ne hj)
  exact k H1 locs1 ls (by show va_P _ _ (ps_wc E _) _; rw [← e]; exact hP1) (by show va_D _ (ps_wc E _); rw [← e]; exact hD1) hS1 hl
theorem gw_ld_c60 {E : ps_E} {ρ : Type} {X : ps_X ρ} {cc : ByteArray} {own : String} {ret : Option FieldType} {f n nL : Nat} (C : ps_C (ps_Yc E) X cc own ret f n nL) {r : ρ} {pc : Nat} {lv : List (Nat × Value)} {st : List Value} {M : ps_M} (pc' : Nat) (hd : decode cc pc = .ok (.caload, 1)) (hp : pc + 1 = pc') {d : Nat} (hk : ps_kd d = 11) {i : Int32} (hi : vp_in i 60) (k : ps_G (ps_Yc E) X r pc' lv (.int (M d i.toNatClampNeg) :: st) M) : ps_G (ps_Yc E) X r pc lv (.int i :: .ref (ps_ad E d) :: st) M := by
  subst hp
  intro H locs ls hP hD hS hl
  obtain ⟨hx, hb, hml, hnL, hown, hts, hr, hlk, hK, hb0, hfr, hlo, hce, hsl⟩ := C
  exact va_cald (D := E.1) hx hb hK hP d 1 (ps_at_11 E M hk) rfl hi hd (k H locs ls hP hD hS hl)
theorem gw_sv_c60 {E : ps_E} {ρ : Type} {X : ps_X ρ} {cc : ByteArray} {own : String} {ret : Option FieldType} {f n nL : Nat} (C : ps_C (ps_Yc E) X cc own ret f n nL) {r : ρ} {pc : Nat} {lv : List (Nat × Value)} {st : List Value} {M : ps_M} (pc' : Nat) (hd : decode cc pc = .ok (.castore, 1)) (hp : pc + 1 = pc') {d : Nat} (hk : ps_kd d = 11) {i x : Int32} (hi : vp_in i 60) (k : ps_G (ps_Yc E) X r pc' lv st (ps_st M d i.toNatClampNeg (vp_nar .char x))) : ps_G (ps_Yc E) X r pc lv (.int x :: .int i :: .ref (ps_ad E d) :: st) M := by
  subst hp
  intro H locs ls hP hD hS hl
  obtain ⟨hx, hb, hml, hnL, hown, hts, hr, hlk, hK, hb0, hfr, hlo, hce, hsl⟩ := C
  refine va_cast (D := E.1) hx hb hK hP hD hS d 1 (ps_at_11 E M hk) rfl hi hd (fun H1 locs1 hP1 hD1 hS1 => ?_)
  have e : (ps_wc E M).set d (ps_ad E d, .inl (E.2.2.1 1, 60, .inl (upd (M d) i.toNatClampNeg (vp_nar .char x)))) = ps_wc E (ps_st M d i.toNatClampNeg (vp_nar .char x)) := ps_wc_set E (by omega) (by rw [ps_cf_11 hk, ps_st_self]) (fun j hj => ps_st_ne hj)
  exact k H1 locs1 ls (by show va_P _ _ (ps_wc E _) _; rw [← e]; exact hP1) (by show va_D _ (ps_wc E _); rw [← e]; exact hD1) hS1 hl
theorem gw_alS {E : ps_E} {ρ : Type} {X : ps_X ρ} {cc : ByteArray} {own : String} {ret : Option FieldType} {f n nL : Nat} (C : ps_C (ps_Yc E) X cc own ret f n nL) {r : ρ} {pc : Nat} {lv : List (Nat × Value)} {st : List Value} {M : ps_M} (pc' : Nat) (hd : decode cc pc = .ok (.aaload, 1)) (hp : pc + 1 = pc') {d : Nat} (hk : ps_kd d = 3) {i : Int32} (hi : vp_in i 6) (k : ps_G (ps_Yc E) X r pc' lv (.ref (ps_ad E (d + 1 + 2 * i.toNatClampNeg)) :: st) M) : ps_G (ps_Yc E) X r pc lv (.int i :: .ref (ps_ad E d) :: st) M := by
  subst hp
  intro H locs ls hP hD hS hl
  obtain ⟨hx, hb, hml, hnL, hown, hts, hr, hlk, hK, hb0, hfr, hlo, hce, hsl⟩ := C
  exact va_aldq (D := E.1) (C := "PaperStations$Station") hx hb hK hP d 2 (ps_at_3 E M hk) rfl hi hd (k H locs ls hP hD hS hl)
theorem gw_alK {E : ps_E} {ρ : Type} {X : ps_X ρ} {cc : ByteArray} {own : String} {ret : Option FieldType} {f n nL : Nat} (C : ps_C (ps_Yc E) X cc own ret f n nL) {r : ρ} {pc : Nat} {lv : List (Nat × Value)} {st : List Value} {M : ps_M} (pc' : Nat) (hd : decode cc pc = .ok (.aaload, 1)) (hp : pc + 1 = pc') {d : Nat} (hk : ps_kd d = 6) {i : Int32} (hi : vp_in i 12) (k : ps_G (ps_Yc E) X r pc' lv (.ref (ps_ad E (d + 1 + i.toNatClampNeg)) :: st) M) : ps_G (ps_Yc E) X r pc lv (.int i :: .ref (ps_ad E d) :: st) M := by
  subst hp
  intro H locs ls hP hD hS hl
  obtain ⟨hx, hb, hml, hnL, hown, hts, hr, hlk, hK, hb0, hfr, hlo, hce, hsl⟩ := C
  exact va_aldq (D := E.1) (C := "PaperStations$Clerk") hx hb hK hP d 3 (ps_at_6 E M hk) rfl hi hd (k H locs ls hP hD hS hl)
theorem gw_alD {E : ps_E} {ρ : Type} {X : ps_X ρ} {cc : ByteArray} {own : String} {ret : Option FieldType} {f n nL : Nat} (C : ps_C (ps_Yc E) X cc own ret f n nL) {r : ρ} {pc : Nat} {lv : List (Nat × Value)} {st : List Value} {M : ps_M} (pc' : Nat) (hd : decode cc pc = .ok (.aaload, 1)) (hp : pc + 1 = pc') {d : Nat} (hk : ps_kd d = 9) {i : Int32} (hi : vp_in i 4) (k : ps_G (ps_Yc E) X r pc' lv (.ref (ps_ad E ((M d i.toNatClampNeg).toNatClampNeg)) :: st) M) : ps_G (ps_Yc E) X r pc lv (.int i :: .ref (ps_ad E d) :: st) M := by
  subst hp
  intro H locs ls hP hD hS hl
  obtain ⟨hx, hb, hml, hnL, hown, hts, hr, hlk, hK, hb0, hfr, hlo, hce, hsl⟩ := C
  exact va_aldq (D := E.1) (C := "PaperStations$Day") hx hb hK hP d 4 (ps_at_9 E M hk) rfl hi hd (k H locs ls hP hD hS hl)
theorem gw_asD {E : ps_E} {ρ : Type} {X : ps_X ρ} {cc : ByteArray} {own : String} {ret : Option FieldType} {f n nL : Nat} (C : ps_C (ps_Yc E) X cc own ret f n nL) {r : ρ} {pc : Nat} {lv : List (Nat × Value)} {st : List Value} {M : ps_M} (pc' : Nat) (hd : decode cc pc = .ok (.aastore, 1)) (hp : pc + 1 = pc') {d g : Nat} (hk : ps_kd d = 9) (hg : ps_kd g = 2) {i : Int32} (hi : vp_in i 4) (k : ps_G (ps_Yc E) X r pc' lv st (ps_st M d i.toNatClampNeg (nI g))) : ps_G (ps_Yc E) X r pc lv (.ref (ps_ad E g) :: .int i :: .ref (ps_ad E d) :: st) M := by
  subst hp
  intro H locs ls hP hD hS hl
  obtain ⟨hx, hb, hml, hnL, hown, hts, hr, hlk, hK, hb0, hfr, hlo, hce, hsl⟩ := C
  refine va_astq (D := E.1) hx hb hK hP hD hS d 4 g 2 (ps_at_9 E M hk) rfl (ps_at_2 E M hg) rfl hi hd (fun H1 locs1 hP1 hD1 hS1 => ?_)
  have hgl := ps_kd_lt (k := g) (by omega)
  have e : (ps_wc E M).set d (ps_ad E d, ps_rw (va_up (fun i => some (ps_ad E (M d i).toNatClampNeg)) i.toNatClampNeg (some (ps_ad E g))) (E.2.2.1 4) 4) = ps_wc E (ps_st M d i.toNatClampNeg (nI g)) := by
    refine ps_wc_set E (by omega) ?_ (fun j hj => ps_st_ne hj)
    rw [ps_cf_9 hk]
    congr 1
    funext a
    by_cases ha : a = i.toNatClampNeg
    · simp [ha, va_up, ps_st, nI_clamp (show g < 2 ^ 31 by omega)]
    · simp [ha, va_up, ps_st]
  exact k H1 locs1 ls (by show va_P _ _ (ps_wc E _) _; rw [← e]; exact hP1) (by show va_D _ (ps_wc E _); rw [← e]; exact hD1) hS1 hl
def ps_cln (k : Nat) : Nat := if ps_kd k = 5 then 15 else 30
theorem gw_copy {E : ps_E} {ρ : Type} {X : ps_X ρ} {cc : ByteArray} {own : String} {ret : Option FieldType} {f n nL : Nat} (C : ps_C (ps_Yc E) X cc own ret f n nL) {r : ρ} {pc : Nat} {lv : List (Nat × Value)} {st : List Value} {M : ps_M} (pc' : Nat) {z : Nat} (hd : decode cc pc = .ok (.invokestatic z, 3)) (hp : pc + 3 = pc') (hw : Cond.methodLink own z arraycopyName ∈ ps_T) {a b : Nat} (ha : ps_kd a = 5 ∨ ps_kd a = 12) (hb9 : ps_kd b = 5 ∨ ps_kd b = 12) {sp dp m9 : Int32} (h1 : ¬ sp < 0) (h2 : ¬ dp < 0) (h3 : ¬ m9 < 0) (h4 : sp.toNatClampNeg + m9.toNatClampNeg ≤ ps_cln a) (h5 : dp.toNatClampNeg + m9.toNatClampNeg ≤ ps_cln b) (hf : 1 ≤ f) (hn : (st.map fun v => v.category).sum + (nativeFrameWords "java/lang/System" "arraycopy" 5 + 11) ≤ n) (k : ps_G (ps_Yc E) X r pc' lv st (ps_cpy M a sp.toNatClampNeg b dp.toNatClampNeg m9.toNatClampNeg)) : ps_G (ps_Yc E) X r pc lv (.int m9 :: .int dp :: .ref (ps_ad E b) :: .int sp :: .ref (ps_ad E a) :: st) M := by
  subst hp
  intro H locs ls hP hD hS hl
  obtain ⟨hx, hb, hml, hnL, hown, hts, hr, hlk, hK, hb0, hfr, hlo, hce, hsl⟩ := C
  have hA : ps_kd a ≠ 0 ∧ ps_cf E.2.2.1 (ps_ad E) M a = .inl (E.2.2.1 0, ps_cln a, .inl (M a)) := by
    rcases ha with h | h
    · exact ⟨by omega, by rw [ps_cf_5 h, ps_cln, if_pos h]⟩
    · exact ⟨by omega, by rw [ps_cf_12 h, ps_cln, if_neg (by omega)]⟩
  have hB : ∀ M : ps_M, ps_kd b ≠ 0 ∧ ps_cf E.2.2.1 (ps_ad E) M b = .inl (E.2.2.1 0, ps_cln b, .inl (M b)) := by
    intro M
    rcases hb9 with h | h
    · exact ⟨by omega, by rw [ps_cf_5 h, ps_cln, if_pos h]⟩
    · exact ⟨by omega, by rw [ps_cf_12 h, ps_cln, if_neg (by omega)]⟩
  have hA9 : (ps_wc E M)[a]? = some (ps_ad E a, .inl (E.2.2.1 0, ps_cln a, .inl (M a))) := (ps_wc_at E M hA.1).trans (by rw [hA.2])
  have hB9 : (ps_wc E M)[b]? = some (ps_ad E b, .inl (E.2.2.1 0, ps_cln b, .inl (M b))) := (ps_wc_at E M (hB M).1).trans (by rw [(hB M).2])
  refine va_copyi (D := E.1) hx hb (by rw [hml]; exact hl.1.symm) hown (hts _ hw) (hts _ lkj_cpn) (hts _ lkj_cps) (hts _ lkj_sys) hK hP hD hS a b 0 0 hA9 hB9 rfl rfl rfl h1 h2 h3 h4 h5 (fun _ _ => rfl) (Nat.le_trans hf hfr) (Nat.le_trans hn hlo) hd (fun H1 locs1 hP1 hD1 hS1 => ?_)
  have e : (ps_wc E M).set b (ps_ad E b, .inl (E.2.2.1 0, ps_cln b, .inl (va_cpy (M a) (M b) sp.toNatClampNeg dp.toNatClampNeg m9.toNatClampNeg))) = ps_wc E (ps_cpy M a sp.toNatClampNeg b dp.toNatClampNeg m9.toNatClampNeg) := ps_wc_set E (hB M).1 (by rw [(hB _).2, ps_cpy_self]) (fun j hj => ps_cpy_ne hj)
  exact k H1 locs1 ls (by show va_P _ _ (ps_wc E _) _; rw [← e]; exact hP1) (by show va_D _ (ps_wc E _); rw [← e]; exact hD1) hS1 hl
end
section
/-! ===== THE REFERENCE'S CELLS: 0 the object, 1 now, 2 past, 3 kept, 4 trial, 5 text, 6 numbers ===== -/
def pm_ln (k : Nat) : Nat := if k = 2 then 948 else if k < 5 then 237 else 60
def pm_f (ad : Nat → Nat) (M : ps_M) (k : Nat) : List Value := [.ref (ad (k + 1)), .ref (ad (k + 2)), .int (M k 2), .ref (ad (k + 3)), .int (M k 4), .ref (ad (k + 4)), .ref (ad (k + 5)), .int (M k 7), .ref (ad (k + 6)), .int (M k 9)]
def pm_cf (cid : Nat → ClassId) (ad : Nat → Nat) (M : ps_M) (k : Nat) : va_E := if k = 0 then .inr (6, pm_f ad M k) else .inl (cid 0, pm_ln k, .inl (M k))
def pm_wc (E : ps_E) (M : ps_M) : va_W := E.2.2.2.2 ++ (List.range 7).map (fun k => (ps_ad E k, pm_cf E.2.2.1 (ps_ad E) M k))
def pm_Y (E : ps_E) : ps_Y ps_M := (E.1, E.2.1, E.2.2.1, pm_wc E)
theorem pm_cf_congr {cid : Nat → ClassId} {ad : Nat → Nat} {M M' : ps_M} {k : Nat} (h : M' k = M k) : pm_cf cid ad M' k = pm_cf cid ad M k := by
  unfold pm_cf pm_f
  rw [h]
theorem pm_wc_at (E : ps_E) (M : ps_M) {k : Nat} (h : k < 7) : (pm_wc E M)[E.2.2.2.2.length + k]? = some (ps_ad E k, pm_cf E.2.2.1 (ps_ad E) M k) := by
  unfold pm_wc
  rw [List.getElem?_append_right (by omega), Nat.add_sub_cancel_left]
  simp [h]
theorem pm_wc_set (E : ps_E) {M M' : ps_M} {k : Nat} {e : va_E} (h : k < 7) (he : pm_cf E.2.2.1 (ps_ad E) M' k = e) (ho : ∀ j, j ≠ k → M' j = M j) : (pm_wc E M).set (E.2.2.2.2.length + k) (ps_ad E k, e) = pm_wc E M' := by
  unfold pm_wc
  rw [List.set_append_right _ _ (by omega), Nat.add_sub_cancel_left]
  congr 1
  apply List.ext_getElem?
  intro j
  by_cases hj : j = k
  · subst hj
    rw [List.getElem?_set_self (by simpa using h)]
    simp [h, he]
  · rw [List.getElem?_set_ne (Ne.symm hj)]
    simp only [List.getElem?_map]
    cases hr : (List.range 7)[j]? with
    | none => rfl
    | some i =>
      have hi : i = j := by
        rw [List.getElem?_range] at hr
        · exact (Option.some.inj hr).symm
        · have := (List.getElem?_eq_some_iff.mp hr).1
          simpa using this
      subst hi
      show some (ps_ad E i, pm_cf _ _ M i) = some (ps_ad E i, pm_cf _ _ M' i)
      rw [pm_cf_congr (ho i hj)]
theorem pm_at (E : ps_E) (M : ps_M) {k : Nat} (h : 1 ≤ k ∧ k < 7) : (pm_wc E M)[E.2.2.2.2.length + k]? = some (ps_ad E k, .inl (E.2.2.1 0, pm_ln k, .inl (M k))) := (pm_wc_at E M h.2).trans (by rw [pm_cf, if_neg (by omega)])
theorem pm_recv {E : ps_E} {M : ps_M} : ps_rc (pm_Y E) M (ps_ad E 0) RX6 := ⟨_, 6, (RX6, TX6, 10), _, rfl, rfl, (pm_wc_at E M (k := 0) (by omega))⟩
theorem gm_get {E : ps_E} {ρ : Type} {X : ps_X ρ} {cc : ByteArray} {own : String} {ret : Option FieldType} {f n nL : Nat} (C : ps_C (pm_Y E) X cc own ret f n nL) {r : ρ} {pc : Nat} {lv : List (Nat × Value)} {st : List Value} {M : ps_M} (pc' : Nat) {z : Nat} (hd : decode cc pc = .ok (.getfield z, 3)) (hp : pc + 3 = pc') (j : Nat) (hj : j < 10) (hw : Cond.fieldLink own z RX6 (TX6 j).2.1 (TX6 j).2.2.1 ∈ ps_T) (hs : (TX6 j).1 = RX6) {v : Value} (hv : (pm_f (ps_ad E) M 0)[j]? = some v) (k : ps_G (pm_Y E) X r pc' lv (v :: st) M) : ps_G (pm_Y E) X r pc lv (.ref (ps_ad E 0) :: st) M := by
  subst hp
  intro H locs ls hP hD hS hl
  obtain ⟨hx, hb, hml, hnL, hown, hts, hr, hlk, hK, hb0, hfr, hlo, hce, hsl⟩ := C
  exact va_get (D := E.1) (ci := 6) (C := RX6) (T := TX6) (N := 10) hx hb hts hinX6 hown hK hP (E.2.2.2.2.length + 0) (pm_wc_at E M (k := 0) (by omega)) rfl j hj (hts _ hw) (fun x h => by rw [← hs]; exact h) hv hd (k H locs ls hP hD hS hl)
theorem pm_set {E : ps_E} {M : ps_M} {j : Nat} (hj : j = 2 ∨ j = 4 ∨ j = 7 ∨ j = 9) (v : Int32) : (pm_wc E M).set (E.2.2.2.2.length + 0) (ps_ad E 0, .inr (6, (pm_f (ps_ad E) M 0).set j (.int v))) = pm_wc E (ps_st M 0 j v) := by
  refine pm_wc_set E (by omega) ?_ (fun i hi => ps_st_ne hi)
  rcases hj with rfl | rfl | rfl | rfl <;> simp [pm_cf, pm_f, ps_st]
theorem gm_put {E : ps_E} {ρ : Type} {X : ps_X ρ} {cc : ByteArray} {own : String} {ret : Option FieldType} {f n nL : Nat} (C : ps_C (pm_Y E) X cc own ret f n nL) {r : ρ} {pc : Nat} {lv : List (Nat × Value)} {st : List Value} {M : ps_M} (pc' : Nat) {z : Nat} (hd : decode cc pc = .ok (.putfield z, 3)) (hp : pc + 3 = pc') (j : Nat) (hj : j = 2 ∨ j = 4 ∨ j = 7 ∨ j = 9) (hw : Cond.fieldLink own z RX6 (TX6 j).2.1 (TX6 j).2.2.1 ∈ ps_T) (hs : (TX6 j).1 = RX6) {ty : FieldType} (hfin : (TX6 j).2.2.2 = false) (hty : parseFieldDescriptor (TX6 j).2.2.1 = some ty) {v : Int32} (hn9 : narrow ty (.int v) = .int v) (hfit : fits ty (.int v) = true) (k : ps_G (pm_Y E) X r pc' lv st (ps_st M 0 j v)) : ps_G (pm_Y E) X r pc lv (.int v :: .ref (ps_ad E 0) :: st) M := by
  subst hp
  intro H locs ls hP hD hS hl
  obtain ⟨hx, hb, hml, hnL, hown, hts, hr, hlk, hK, hb0, hfr, hlo, hce, hsl⟩ := C
  refine va_put (D := E.1) (ci := 6) (C := RX6) (T := TX6) (N := 10) hx hb hts hinX6 tyX6 tyX6_ok nmX6 hown hK hP hD hS (E.2.2.2.2.length + 0) (pm_wc_at E M (k := 0) (by omega)) rfl j (by omega) (hts _ hw) (fun x h => by rw [← hs]; exact h) hfin hty hn9 hfit (by show j < 10; omega) hd (fun H1 locs1 hP1 hD1 hS1 => ?_)
  have e := pm_set (E := E) (M := M) hj v
  exact k H1 locs1 ls (by show va_P _ _ (pm_wc E _) _; rw [← e]; exact hP1) (by show va_D _ (pm_wc E _); rw [← e]; exact hD1) hS1 hl
theorem gm_ld {E : ps_E} {ρ : Type} {X : ps_X ρ} {cc : ByteArray} {own : String} {ret : Option FieldType} {f n nL : Nat} (C : ps_C (pm_Y E) X cc own ret f n nL) {r : ρ} {pc : Nat} {lv : List (Nat × Value)} {st : List Value} {M : ps_M} (pc' : Nat) (hd : decode cc pc = .ok (.iaload, 1)) (hp : pc + 1 = pc') {d : Nat} (hk : 1 ≤ d ∧ d < 7) {i : Int32} (hi : vp_in i (pm_ln d)) (k : ps_G (pm_Y E) X r pc' lv (.int (M d i.toNatClampNeg) :: st) M) : ps_G (pm_Y E) X r pc lv (.int i :: .ref (ps_ad E d) :: st) M := by
  subst hp
  intro H locs ls hP hD hS hl
  obtain ⟨hx, hb, hml, hnL, hown, hts, hr, hlk, hK, hb0, hfr, hlo, hce, hsl⟩ := C
  exact va_iald (D := E.1) hx hb hK hP (E.2.2.2.2.length + d) 0 (pm_at E M hk) rfl hi hd (k H locs ls hP hD hS hl)
theorem gm_sv {E : ps_E} {ρ : Type} {X : ps_X ρ} {cc : ByteArray} {own : String} {ret : Option FieldType} {f n nL : Nat} (C : ps_C (pm_Y E) X cc own ret f n nL) {r : ρ} {pc : Nat} {lv : List (Nat × Value)} {st : List Value} {M : ps_M} (pc' : Nat) (hd : decode cc pc = .ok (.iastore, 1)) (hp : pc + 1 = pc') {d : Nat} (hk : 1 ≤ d ∧ d < 7) {i x : Int32} (hi : vp_in i (pm_ln d)) (k : ps_G (pm_Y E) X r pc' lv st (ps_st M d i.toNatClampNeg x)) : ps_G (pm_Y E) X r pc lv (.int x :: .int i :: .ref (ps_ad E d) :: st) M := by
  subst hp
  intro H locs ls hP hD hS hl
  obtain ⟨hx, hb, hml, hnL, hown, hts, hr, hlk, hK, hb0, hfr, hlo, hce, hsl⟩ := C
  refine va_iast (D := E.1) hx hb hK hP hD hS (E.2.2.2.2.length + d) 0 (pm_at E M hk) rfl hi hd (fun H1 locs1 hP1 hD1 hS1 => ?_)
  have e : (pm_wc E M).set (E.2.2.2.2.length + d) (ps_ad E d, .inl (E.2.2.1 0, pm_ln d, .inl (upd (M d) i.toNatClampNeg x))) = pm_wc E (ps_st M d i.toNatClampNeg x) := pm_wc_set E hk.2 (by rw [pm_cf, if_neg (by omega), ps_st_self]) (fun j hj => ps_st_ne hj)
  exact k H1 locs1 ls (by show va_P _ _ (pm_wc E _) _; rw [← e]; exact hP1) (by show va_D _ (pm_wc E _); rw [← e]; exact hD1) hS1 hl
end
