section
-- ===== PART A: goes FIRST, ahead of the names: the tables' words, and 'selects' of the private methods out of them =====
/-- a private method of a class that the tables say can be made, by its rows of tables_1 -/
def lw_okq (q : MethodName × Nat) : Prop := (q.1.cls ≠ "java/lang/invoke/MethodHandle" ∧ q.1.cls ≠ "java/lang/invoke/VarHandle") ∧ Cond.instantiable q.1.cls q.2 ∈ tables_1 ∧ Cond.privateMethod q.1 ∈ tables_1 ∧ Cond.instanceMethod q.1 ∈ tables_1
theorem lw_p0 : lw_okq (⟨"PaperStations$History", "dropOldest", "()V"⟩, 2) := ⟨⟨by decide +kernel, by decide +kernel⟩, List.mem_of_getElem? (i := 146) (by decide +kernel), List.mem_of_getElem? (i := 213) (by decide +kernel), List.mem_of_getElem? (i := 214) (by decide +kernel)⟩
theorem lw_p1 : lw_okq (⟨"PaperStations", "isHourToCome", "(I)Z"⟩, 7) := ⟨⟨by decide +kernel, by decide +kernel⟩, List.mem_of_getElem? (i := 11) (by decide +kernel), List.mem_of_getElem? (i := 251) (by decide +kernel), List.mem_of_getElem? (i := 252) (by decide +kernel)⟩
theorem lw_p2 : lw_okq (⟨"PaperStations$Day", "letArrive", "()V"⟩, 5) := ⟨⟨by decide +kernel, by decide +kernel⟩, List.mem_of_getElem? (i := 19) (by decide +kernel), List.mem_of_getElem? (i := 300) (by decide +kernel), List.mem_of_getElem? (i := 301) (by decide +kernel)⟩
theorem lw_p3 : lw_okq (⟨"PaperStations$Day", "changeClerks", "()V"⟩, 5) := ⟨⟨by decide +kernel, by decide +kernel⟩, List.mem_of_getElem? (i := 19) (by decide +kernel), List.mem_of_getElem? (i := 304) (by decide +kernel), List.mem_of_getElem? (i := 305) (by decide +kernel)⟩
theorem lw_p4 : lw_okq (⟨"PaperStations$Day", "firstFree", "()I"⟩, 5) := ⟨⟨by decide +kernel, by decide +kernel⟩, List.mem_of_getElem? (i := 19) (by decide +kernel), List.mem_of_getElem? (i := 313) (by decide +kernel), List.mem_of_getElem? (i := 314) (by decide +kernel)⟩
theorem lw_p5 : lw_okq (⟨"PaperStations$Day", "comesBefore", "(II)Z"⟩, 5) := ⟨⟨by decide +kernel, by decide +kernel⟩, List.mem_of_getElem? (i := 19) (by decide +kernel), List.mem_of_getElem? (i := 318) (by decide +kernel), List.mem_of_getElem? (i := 319) (by decide +kernel)⟩
theorem lw_p6 : lw_okq (⟨"PaperStations$Day", "serveQueues", "()I"⟩, 5) := ⟨⟨by decide +kernel, by decide +kernel⟩, List.mem_of_getElem? (i := 19) (by decide +kernel), List.mem_of_getElem? (i := 323) (by decide +kernel), List.mem_of_getElem? (i := 324) (by decide +kernel)⟩
theorem lw_p7 : lw_okq (⟨"PaperStations$Day", "endHourOfClerks", "()V"⟩, 5) := ⟨⟨by decide +kernel, by decide +kernel⟩, List.mem_of_getElem? (i := 19) (by decide +kernel), List.mem_of_getElem? (i := 341) (by decide +kernel), List.mem_of_getElem? (i := 342) (by decide +kernel)⟩
theorem lw_p8 : lw_okq (⟨"PaperStations", "total", "()LPaperStations$Station;"⟩, 7) := ⟨⟨by decide +kernel, by decide +kernel⟩, List.mem_of_getElem? (i := 11) (by decide +kernel), List.mem_of_getElem? (i := 492) (by decide +kernel), List.mem_of_getElem? (i := 493) (by decide +kernel)⟩
theorem lw_p9 : lw_okq (⟨"PaperStationsModel", "records", "()V"⟩, 10) := ⟨⟨by decide +kernel, by decide +kernel⟩, List.mem_of_getElem? (i := 513) (by decide +kernel), List.mem_of_getElem? (i := 554) (by decide +kernel), List.mem_of_getElem? (i := 555) (by decide +kernel)⟩
theorem lw_p10 : lw_okq (⟨"PaperStationsModel", "adds", "(III)V"⟩, 10) := ⟨⟨by decide +kernel, by decide +kernel⟩, List.mem_of_getElem? (i := 513) (by decide +kernel), List.mem_of_getElem? (i := 561) (by decide +kernel), List.mem_of_getElem? (i := 562) (by decide +kernel)⟩
theorem lw_p11 : lw_okq (⟨"PaperStationsModel", "laysClerk", "(III)V"⟩, 10) := ⟨⟨by decide +kernel, by decide +kernel⟩, List.mem_of_getElem? (i := 513) (by decide +kernel), List.mem_of_getElem? (i := 572) (by decide +kernel), List.mem_of_getElem? (i := 573) (by decide +kernel)⟩
theorem lw_p12 : lw_okq (⟨"PaperStationsModel", "isStation", "(I)Z"⟩, 10) := ⟨⟨by decide +kernel, by decide +kernel⟩, List.mem_of_getElem? (i := 513) (by decide +kernel), List.mem_of_getElem? (i := 580) (by decide +kernel), List.mem_of_getElem? (i := 581) (by decide +kernel)⟩
theorem lw_p13 : lw_okq (⟨"PaperStationsModel", "of", "(II)I"⟩, 10) := ⟨⟨by decide +kernel, by decide +kernel⟩, List.mem_of_getElem? (i := 513) (by decide +kernel), List.mem_of_getElem? (i := 584) (by decide +kernel), List.mem_of_getElem? (i := 585) (by decide +kernel)⟩
theorem lw_p14 : lw_okq (⟨"PaperStationsModel", "isClerk", "(I)Z"⟩, 10) := ⟨⟨by decide +kernel, by decide +kernel⟩, List.mem_of_getElem? (i := 513) (by decide +kernel), List.mem_of_getElem? (i := 592) (by decide +kernel), List.mem_of_getElem? (i := 593) (by decide +kernel)⟩
theorem lw_p15 : lw_okq (⟨"PaperStationsModel", "isFree", "(I)Z"⟩, 10) := ⟨⟨by decide +kernel, by decide +kernel⟩, List.mem_of_getElem? (i := 513) (by decide +kernel), List.mem_of_getElem? (i := 596) (by decide +kernel), List.mem_of_getElem? (i := 597) (by decide +kernel)⟩
def lw_privs_1 : List (MethodName × Nat) := [(⟨"PaperStations$History", "dropOldest", "()V"⟩, 2), (⟨"PaperStations", "isHourToCome", "(I)Z"⟩, 7), (⟨"PaperStations$Day", "letArrive", "()V"⟩, 5), (⟨"PaperStations$Day", "changeClerks", "()V"⟩, 5), (⟨"PaperStations$Day", "firstFree", "()I"⟩, 5), (⟨"PaperStations$Day", "comesBefore", "(II)Z"⟩, 5), (⟨"PaperStations$Day", "serveQueues", "()I"⟩, 5), (⟨"PaperStations$Day", "endHourOfClerks", "()V"⟩, 5), (⟨"PaperStations", "total", "()LPaperStations$Station;"⟩, 7), (⟨"PaperStationsModel", "records", "()V"⟩, 10), (⟨"PaperStationsModel", "adds", "(III)V"⟩, 10), (⟨"PaperStationsModel", "laysClerk", "(III)V"⟩, 10), (⟨"PaperStationsModel", "isStation", "(I)Z"⟩, 10), (⟨"PaperStationsModel", "of", "(II)I"⟩, 10), (⟨"PaperStationsModel", "isClerk", "(I)Z"⟩, 10), (⟨"PaperStationsModel", "isFree", "(I)Z"⟩, 10)]
theorem lw_r1 : ∀ q ∈ lw_privs_1, lw_okq q := List.forall_mem_cons.mpr ⟨lw_p0, List.forall_mem_cons.mpr ⟨lw_p1, List.forall_mem_cons.mpr ⟨lw_p2, List.forall_mem_cons.mpr ⟨lw_p3, List.forall_mem_cons.mpr ⟨lw_p4, List.forall_mem_cons.mpr ⟨lw_p5, List.forall_mem_cons.mpr ⟨lw_p6, List.forall_mem_cons.mpr ⟨lw_p7, List.forall_mem_cons.mpr ⟨lw_p8, List.forall_mem_cons.mpr ⟨lw_p9, List.forall_mem_cons.mpr ⟨lw_p10, List.forall_mem_cons.mpr ⟨lw_p11, List.forall_mem_cons.mpr ⟨lw_p12, List.forall_mem_cons.mpr ⟨lw_p13, List.forall_mem_cons.mpr ⟨lw_p14, List.forall_mem_cons.mpr ⟨lw_p15, fun _ h => absurd h List.not_mem_nil⟩⟩⟩⟩⟩⟩⟩⟩⟩⟩⟩⟩⟩⟩⟩⟩
theorem lw_p16 : lw_okq (⟨"PaperStationsModel", "ofClerk", "(II)I"⟩, 10) := ⟨⟨by decide +kernel, by decide +kernel⟩, List.mem_of_getElem? (i := 513) (by decide +kernel), List.mem_of_getElem? (i := 600) (by decide +kernel), List.mem_of_getElem? (i := 601) (by decide +kernel)⟩
theorem lw_p17 : lw_okq (⟨"PaperStationsModel", "onDutyAt", "(I)I"⟩, 10) := ⟨⟨by decide +kernel, by decide +kernel⟩, List.mem_of_getElem? (i := 513) (by decide +kernel), List.mem_of_getElem? (i := 604) (by decide +kernel), List.mem_of_getElem? (i := 605) (by decide +kernel)⟩
theorem lw_p18 : lw_okq (⟨"PaperStationsModel", "leaves", "(II)V"⟩, 10) := ⟨⟨by decide +kernel, by decide +kernel⟩, List.mem_of_getElem? (i := 513) (by decide +kernel), List.mem_of_getElem? (i := 612) (by decide +kernel), List.mem_of_getElem? (i := 613) (by decide +kernel)⟩
theorem lw_p19 : lw_okq (⟨"PaperStationsModel", "hoursPass", "(I)I"⟩, 10) := ⟨⟨by decide +kernel, by decide +kernel⟩, List.mem_of_getElem? (i := 513) (by decide +kernel), List.mem_of_getElem? (i := 620) (by decide +kernel), List.mem_of_getElem? (i := 621) (by decide +kernel)⟩
theorem lw_p20 : lw_okq (⟨"PaperStationsModel", "hourPasses", "()I"⟩, 10) := ⟨⟨by decide +kernel, by decide +kernel⟩, List.mem_of_getElem? (i := 513) (by decide +kernel), List.mem_of_getElem? (i := 624) (by decide +kernel), List.mem_of_getElem? (i := 625) (by decide +kernel)⟩
theorem lw_p21 : lw_okq (⟨"PaperStationsModel", "takesTurns", "()V"⟩, 10) := ⟨⟨by decide +kernel, by decide +kernel⟩, List.mem_of_getElem? (i := 513) (by decide +kernel), List.mem_of_getElem? (i := 628) (by decide +kernel), List.mem_of_getElem? (i := 629) (by decide +kernel)⟩
theorem lw_p22 : lw_okq (⟨"PaperStationsModel", "freeAt", "(I)I"⟩, 10) := ⟨⟨by decide +kernel, by decide +kernel⟩, List.mem_of_getElem? (i := 513) (by decide +kernel), List.mem_of_getElem? (i := 632) (by decide +kernel), List.mem_of_getElem? (i := 633) (by decide +kernel)⟩
theorem lw_p23 : lw_okq (⟨"PaperStationsModel", "aheadOf", "(I)I"⟩, 10) := ⟨⟨by decide +kernel, by decide +kernel⟩, List.mem_of_getElem? (i := 513) (by decide +kernel), List.mem_of_getElem? (i := 636) (by decide +kernel), List.mem_of_getElem? (i := 637) (by decide +kernel)⟩
theorem lw_p24 : lw_okq (⟨"PaperStationsModel", "serves", "(I)I"⟩, 10) := ⟨⟨by decide +kernel, by decide +kernel⟩, List.mem_of_getElem? (i := 513) (by decide +kernel), List.mem_of_getElem? (i := 640) (by decide +kernel), List.mem_of_getElem? (i := 641) (by decide +kernel)⟩
theorem lw_p25 : lw_okq (⟨"PaperStationsModel", "serveAt", "(I)I"⟩, 10) := ⟨⟨by decide +kernel, by decide +kernel⟩, List.mem_of_getElem? (i := 513) (by decide +kernel), List.mem_of_getElem? (i := 644) (by decide +kernel), List.mem_of_getElem? (i := 645) (by decide +kernel)⟩
theorem lw_p26 : lw_okq (⟨"PaperStationsModel", "faultOf", "()I"⟩, 10) := ⟨⟨by decide +kernel, by decide +kernel⟩, List.mem_of_getElem? (i := 513) (by decide +kernel), List.mem_of_getElem? (i := 685) (by decide +kernel), List.mem_of_getElem? (i := 686) (by decide +kernel)⟩
theorem lw_p27 : lw_okq (⟨"PaperStationsModel", "signAt", "(I)I"⟩, 10) := ⟨⟨by decide +kernel, by decide +kernel⟩, List.mem_of_getElem? (i := 513) (by decide +kernel), List.mem_of_getElem? (i := 689) (by decide +kernel), List.mem_of_getElem? (i := 690) (by decide +kernel)⟩
theorem lw_p28 : lw_okq (⟨"PaperStationsModel", "arrivalsAll", "(I)I"⟩, 10) := ⟨⟨by decide +kernel, by decide +kernel⟩, List.mem_of_getElem? (i := 513) (by decide +kernel), List.mem_of_getElem? (i := 709) (by decide +kernel), List.mem_of_getElem? (i := 710) (by decide +kernel)⟩
theorem lw_p29 : lw_okq (⟨"PaperStationsModel", "toServe", "(I)I"⟩, 10) := ⟨⟨by decide +kernel, by decide +kernel⟩, List.mem_of_getElem? (i := 513) (by decide +kernel), List.mem_of_getElem? (i := 713) (by decide +kernel), List.mem_of_getElem? (i := 714) (by decide +kernel)⟩
theorem lw_p30 : lw_okq (⟨"PaperStationsModel", "overClerks", "(I)I"⟩, 10) := ⟨⟨by decide +kernel, by decide +kernel⟩, List.mem_of_getElem? (i := 513) (by decide +kernel), List.mem_of_getElem? (i := 751) (by decide +kernel), List.mem_of_getElem? (i := 752) (by decide +kernel)⟩
theorem lw_p31 : lw_okq (⟨"PaperStationsModel", "overStations", "(I)I"⟩, 10) := ⟨⟨by decide +kernel, by decide +kernel⟩, List.mem_of_getElem? (i := 513) (by decide +kernel), List.mem_of_getElem? (i := 755) (by decide +kernel), List.mem_of_getElem? (i := 756) (by decide +kernel)⟩
def lw_privs_2 : List (MethodName × Nat) := [(⟨"PaperStationsModel", "ofClerk", "(II)I"⟩, 10), (⟨"PaperStationsModel", "onDutyAt", "(I)I"⟩, 10), (⟨"PaperStationsModel", "leaves", "(II)V"⟩, 10), (⟨"PaperStationsModel", "hoursPass", "(I)I"⟩, 10), (⟨"PaperStationsModel", "hourPasses", "()I"⟩, 10), (⟨"PaperStationsModel", "takesTurns", "()V"⟩, 10), (⟨"PaperStationsModel", "freeAt", "(I)I"⟩, 10), (⟨"PaperStationsModel", "aheadOf", "(I)I"⟩, 10), (⟨"PaperStationsModel", "serves", "(I)I"⟩, 10), (⟨"PaperStationsModel", "serveAt", "(I)I"⟩, 10), (⟨"PaperStationsModel", "faultOf", "()I"⟩, 10), (⟨"PaperStationsModel", "signAt", "(I)I"⟩, 10), (⟨"PaperStationsModel", "arrivalsAll", "(I)I"⟩, 10), (⟨"PaperStationsModel", "toServe", "(I)I"⟩, 10), (⟨"PaperStationsModel", "overClerks", "(I)I"⟩, 10), (⟨"PaperStationsModel", "overStations", "(I)I"⟩, 10)]
theorem lw_r2 : ∀ q ∈ lw_privs_2, lw_okq q := List.forall_mem_cons.mpr ⟨lw_p16, List.forall_mem_cons.mpr ⟨lw_p17, List.forall_mem_cons.mpr ⟨lw_p18, List.forall_mem_cons.mpr ⟨lw_p19, List.forall_mem_cons.mpr ⟨lw_p20, List.forall_mem_cons.mpr ⟨lw_p21, List.forall_mem_cons.mpr ⟨lw_p22, List.forall_mem_cons.mpr ⟨lw_p23, List.forall_mem_cons.mpr ⟨lw_p24, List.forall_mem_cons.mpr ⟨lw_p25, List.forall_mem_cons.mpr ⟨lw_p26, List.forall_mem_cons.mpr ⟨lw_p27, List.forall_mem_cons.mpr ⟨lw_p28, List.forall_mem_cons.mpr ⟨lw_p29, List.forall_mem_cons.mpr ⟨lw_p30, List.forall_mem_cons.mpr ⟨lw_p31, fun _ h => absurd h List.not_mem_nil⟩⟩⟩⟩⟩⟩⟩⟩⟩⟩⟩⟩⟩⟩⟩⟩
theorem lw_p32 : lw_okq (⟨"PaperStationsModel", "countedAs", "(Z)I"⟩, 10) := ⟨⟨by decide +kernel, by decide +kernel⟩, List.mem_of_getElem? (i := 513) (by decide +kernel), List.mem_of_getElem? (i := 759) (by decide +kernel), List.mem_of_getElem? (i := 760) (by decide +kernel)⟩
def lw_privs_3 : List (MethodName × Nat) := [(⟨"PaperStationsModel", "countedAs", "(Z)I"⟩, 10)]
theorem lw_r3 : ∀ q ∈ lw_privs_3, lw_okq q := List.forall_mem_cons.mpr ⟨lw_p32, fun _ h => absurd h List.not_mem_nil⟩
def lw_privs : List (MethodName × Nat) := lw_privs_1 ++ (lw_privs_2 ++ (lw_privs_3))
def lw_tbl : List Cond := k2_sels lw_privs ++ tables_1
theorem lw_privs_ok : ∀ q ∈ lw_privs, lw_okq q := by
  show ∀ q ∈ lw_privs_1 ++ (lw_privs_2 ++ (lw_privs_3)), lw_okq q
  exact List.forall_mem_append.mpr ⟨lw_r1, List.forall_mem_append.mpr ⟨lw_r2, lw_r3⟩⟩
/-! ===== BEGIN words of one list among another's, by their places ===== -/
theorem goodIn_r {big : List Cond} (ws : List Cond) (ps : List Nat) (hp : ws = ps.filterMap (fun i => big[i]?)) (h : ws.all goodWord = true) : GoodIn big ws := by
  intro w hw
  have h1 := List.all_eq_true.mp h w hw
  rw [hp] at hw
  obtain ⟨i, -, hi⟩ := List.mem_filterMap.mp hw
  have hm : w ∈ big := by first | exact List.mem_of_getElem? hi | exact List.getElem?_mem hi
  exact ⟨hm, good_of_word h1⟩
theorem goodIn_app {big a b : List Cond} (ha : GoodIn big a) (hb : GoodIn big b) : GoodIn big (a ++ b) := fun w h => (List.mem_append.mp h).elim (ha w) (hb w)
theorem goodIn_ca {big a b : List Cond} {c : Cond} (ha : GoodIn big (c :: a)) (hb : GoodIn big b) : GoodIn big (c :: (a ++ b)) := fun w h => (List.mem_cons.mp h).elim (fun e => ha w (List.mem_cons.mpr (Or.inl e))) (fun h => (List.mem_append.mp h).elim (fun h => ha w (List.mem_cons.mpr (Or.inr h))) (hb w))
theorem goodIn_sub {big ws : List Cond} (hm : ∀ w ∈ ws, w ∈ big) (h : ws.all goodWord = true) : GoodIn big ws := fun w hw => ⟨hm w hw, good_of_word (List.all_eq_true.mp h w hw)⟩
/-! ===== END ===== -/

/-! ===== BEGIN printed: names, fields, word lists, decode rows ===== -/
def RX0 : String := "PaperStations$ArrivalText"
def TX0 : u_T := fun k => match k with
  | 0 => ("PaperStations$ArrivalText", "signs", "[C", true)
  | 1 => ("PaperStations$ArrivalText", "numbers", "[I", true)
  | _ => ("PaperStations$ArrivalText", "length", "I", false)
def tyX0 : Nat → FieldType := fun k => match k with
  | 0 => .array .char
  | 1 => .array .int
  | _ => .int
abbrev wsX00 : List Cond := u_ws RX0 TX0 3
theorem nmX0 : ∀ a, a < 3 → ∀ b, b < 3 → a ≠ b → (TX0 a).2.1 ≠ (TX0 b).2.1 := by decide +kernel
theorem tyX0_ok : ∀ k, k < 3 → parseFieldDescriptor (TX0 k).2.2.1 = some (tyX0 k) := by decide +kernel
abbrev cX0_init : ByteArray := prog_2_method_1_code
def yX0_init : MethodName := ⟨RX0, "<init>", "()V"⟩
abbrev cX0_fault : ByteArray := prog_2_method_2_code
def yX0_fault : MethodName := ⟨RX0, "fault", "()I"⟩
abbrev cX0_readNumbers : ByteArray := prog_2_method_3_code
def yX0_readNumbers : MethodName := ⟨RX0, "readNumbers", "()I"⟩
abbrev cX0_greatestNumber : ByteArray := prog_2_method_4_code
def yX0_greatestNumber : MethodName := ⟨RX0, "greatestNumber", "(I)I"⟩
abbrev cX0_isDigit : ByteArray := prog_2_method_5_code
def yX0_isDigit : MethodName := ⟨RX0, "isDigit", "(C)Z"⟩
def RX1 : String := "PaperStations$Clerk"
def TX1 : u_T := fun k => match k with
  | 0 => ("PaperStations$Clerk", "serves", "I", false)
  | 1 => ("PaperStations$Clerk", "longestRun", "I", false)
  | 2 => ("PaperStations$Clerk", "dutyStation", "I", false)
  | 3 => ("PaperStations$Clerk", "run", "I", false)
  | 4 => ("PaperStations$Clerk", "hoursWorked", "I", false)
  | _ => ("PaperStations$Clerk", "restEnds", "I", false)
def tyX1 : Nat → FieldType := fun k => match k with
  | 0 => .int
  | 1 => .int
  | 2 => .int
  | 3 => .int
  | 4 => .int
  | _ => .int
abbrev wsX10 : List Cond := u_ws RX1 TX1 6
theorem nmX1 : ∀ a, a < 6 → ∀ b, b < 6 → a ≠ b → (TX1 a).2.1 ≠ (TX1 b).2.1 := by decide +kernel
theorem tyX1_ok : ∀ k, k < 6 → parseFieldDescriptor (TX1 k).2.2.1 = some (tyX1 k) := by decide +kernel
abbrev cX1_init : ByteArray := prog_3_method_1_code
def yX1_init : MethodName := ⟨RX1, "<init>", "()V"⟩
abbrev cX1_copyFrom : ByteArray := prog_3_method_2_code
def yX1_copyFrom : MethodName := ⟨RX1, "copyFrom", "(LPaperStations$Clerk;)V"⟩
abbrev cX1_isOnDuty : ByteArray := prog_3_method_3_code
def yX1_isOnDuty : MethodName := ⟨RX1, "isOnDuty", "()Z"⟩
abbrev cX1_rests : ByteArray := prog_3_method_4_code
def yX1_rests : MethodName := ⟨RX1, "rests", "()Z"⟩
abbrev cX1_isFree : ByteArray := prog_3_method_5_code
def yX1_isFree : MethodName := ⟨RX1, "isFree", "()Z"⟩
abbrev cX1_mustLeave : ByteArray := prog_3_method_6_code
def yX1_mustLeave : MethodName := ⟨RX1, "mustLeave", "()Z"⟩
abbrev cX1_comeTo : ByteArray := prog_3_method_7_code
def yX1_comeTo : MethodName := ⟨RX1, "comeTo", "(I)V"⟩
abbrev cX1_leaveDuty : ByteArray := prog_3_method_8_code
def yX1_leaveDuty : MethodName := ⟨RX1, "leaveDuty", "(I)V"⟩
abbrev cX1_endHour : ByteArray := prog_3_method_9_code
def yX1_endHour : MethodName := ⟨RX1, "endHour", "()V"⟩
def RX2 : String := "PaperStations$Day"
def TX2 : u_T := fun k => match k with
  | 0 => ("PaperStations$Day", "hour", "I", false)
  | 1 => ("PaperStations$Day", "stationCount", "I", false)
  | 2 => ("PaperStations$Day", "clerkCount", "I", false)
  | 3 => ("PaperStations$Day", "stations", "[LPaperStations$Station;", true)
  | _ => ("PaperStations$Day", "clerks", "[LPaperStations$Clerk;", true)
def tyX2 : Nat → FieldType := fun k => match k with
  | 0 => .int
  | 1 => .int
  | 2 => .int
  | 3 => .array (.object "PaperStations$Station")
  | _ => .array (.object "PaperStations$Clerk")
abbrev wsX20 : List Cond := u_ws RX2 TX2 5
theorem nmX2 : ∀ a, a < 5 → ∀ b, b < 5 → a ≠ b → (TX2 a).2.1 ≠ (TX2 b).2.1 := by decide +kernel
theorem tyX2_ok : ∀ k, k < 5 → parseFieldDescriptor (TX2 k).2.2.1 = some (tyX2 k) := by decide +kernel
abbrev cX2_init : ByteArray := prog_4_method_1_code
def yX2_init : MethodName := ⟨RX2, "<init>", "()V"⟩
abbrev cX2_copyFrom : ByteArray := prog_4_method_2_code
def yX2_copyFrom : MethodName := ⟨RX2, "copyFrom", "(LPaperStations$Day;)V"⟩
abbrev cX2_hasStation : ByteArray := prog_4_method_3_code
def yX2_hasStation : MethodName := ⟨RX2, "hasStation", "(I)Z"⟩
abbrev cX2_hasClerk : ByteArray := prog_4_method_4_code
def yX2_hasClerk : MethodName := ⟨RX2, "hasClerk", "(I)Z"⟩
abbrev cX2_engageClerk : ByteArray := prog_4_method_5_code
def yX2_engageClerk : MethodName := ⟨RX2, "engageClerk", "(II)I"⟩
abbrev cX2_letHoursPass : ByteArray := prog_4_method_6_code
def yX2_letHoursPass : MethodName := ⟨RX2, "letHoursPass", "(I)I"⟩
abbrev cX2_letArrive : ByteArray := prog_4_method_7_code
def yX2_letArrive : MethodName := ⟨RX2, "letArrive", "()V"⟩
abbrev cX2_changeClerks : ByteArray := prog_4_method_8_code
def yX2_changeClerks : MethodName := ⟨RX2, "changeClerks", "()V"⟩
abbrev cX2_serveQueues : ByteArray := prog_4_method_9_code
def yX2_serveQueues : MethodName := ⟨RX2, "serveQueues", "()I"⟩
abbrev cX2_endHourOfClerks : ByteArray := prog_4_method_10_code
def yX2_endHourOfClerks : MethodName := ⟨RX2, "endHourOfClerks", "()V"⟩
abbrev cX2_firstFree : ByteArray := prog_4_method_11_code
def yX2_firstFree : MethodName := ⟨RX2, "firstFree", "()I"⟩
abbrev cX2_comesBefore : ByteArray := prog_4_method_12_code
def yX2_comesBefore : MethodName := ⟨RX2, "comesBefore", "(II)Z"⟩
abbrev cX2_placeAmongFree : ByteArray := prog_4_method_13_code
def yX2_placeAmongFree : MethodName := ⟨RX2, "placeAmongFree", "(I)I"⟩
abbrev cX2_placeByQueue : ByteArray := prog_4_method_14_code
def yX2_placeByQueue : MethodName := ⟨RX2, "placeByQueue", "(I)I"⟩
abbrev cX2_clerksAt : ByteArray := prog_4_method_15_code
def yX2_clerksAt : MethodName := ⟨RX2, "clerksAt", "(I)I"⟩
abbrev cX2_servedAnHourAt : ByteArray := prog_4_method_16_code
def yX2_servedAnHourAt : MethodName := ⟨RX2, "servedAnHourAt", "(I)I"⟩
abbrev cX2_hoursForQueueOf : ByteArray := prog_4_method_17_code
def yX2_hoursForQueueOf : MethodName := ⟨RX2, "hoursForQueueOf", "(I)I"⟩
abbrev cX2_clerksOnDuty : ByteArray := prog_4_method_18_code
def yX2_clerksOnDuty : MethodName := ⟨RX2, "clerksOnDuty", "()I"⟩
abbrev cX2_freeClerks : ByteArray := prog_4_method_19_code
def yX2_freeClerks : MethodName := ⟨RX2, "freeClerks", "()I"⟩
abbrev cX2_hoursWorked : ByteArray := prog_4_method_20_code
def yX2_hoursWorked : MethodName := ⟨RX2, "hoursWorked", "()I"⟩
abbrev cX2_stationsCounted : ByteArray := prog_4_method_21_code
def yX2_stationsCounted : MethodName := ⟨RX2, "stationsCounted", "(Z)I"⟩
def RX3 : String := "PaperStations$History"
def TX3 : u_T := fun k => match k with
  | 0 => ("PaperStations$History", "states", "[LPaperStations$Day;", true)
  | _ => ("PaperStations$History", "size", "I", false)
def tyX3 : Nat → FieldType := fun k => match k with
  | 0 => .array (.object "PaperStations$Day")
  | _ => .int
abbrev wsX30 : List Cond := u_ws RX3 TX3 2
theorem nmX3 : ∀ a, a < 2 → ∀ b, b < 2 → a ≠ b → (TX3 a).2.1 ≠ (TX3 b).2.1 := by decide +kernel
theorem tyX3_ok : ∀ k, k < 2 → parseFieldDescriptor (TX3 k).2.2.1 = some (tyX3 k) := by decide +kernel
abbrev cX3_init : ByteArray := prog_5_method_1_code
def yX3_init : MethodName := ⟨RX3, "<init>", "()V"⟩
abbrev cX3_remember : ByteArray := prog_5_method_2_code
def yX3_remember : MethodName := ⟨RX3, "remember", "(LPaperStations$Day;)V"⟩
abbrev cX3_dropOldest : ByteArray := prog_5_method_3_code
def yX3_dropOldest : MethodName := ⟨RX3, "dropOldest", "()V"⟩
abbrev cX3_takeBackInto : ByteArray := prog_5_method_4_code
def yX3_takeBackInto : MethodName := ⟨RX3, "takeBackInto", "(LPaperStations$Day;)V"⟩
def RX4 : String := "PaperStations$Station"
def TX4 : u_T := fun k => match k with
  | 0 => ("PaperStations$Station", "arrivals", "[I", true)
  | 1 => ("PaperStations$Station", "queue", "I", false)
  | 2 => ("PaperStations$Station", "longestQueue", "I", false)
  | 3 => ("PaperStations$Station", "served", "I", false)
  | 4 => ("PaperStations$Station", "hoursWaited", "I", false)
  | 5 => ("PaperStations$Station", "stock", "I", false)
  | 6 => ("PaperStations$Station", "issued", "I", false)
  | 7 => ("PaperStations$Station", "spoilt", "I", false)
  | 8 => ("PaperStations$Station", "carriedOff", "I", false)
  | 9 => ("PaperStations$Station", "found", "I", false)
  | 10 => ("PaperStations$Station", "box", "I", false)
  | 11 => ("PaperStations$Station", "latestCount", "I", false)
  | _ => ("PaperStations$Station", "timesCounted", "I", false)
def tyX4 : Nat → FieldType := fun k => match k with
  | 0 => .array .int
  | 1 => .int
  | 2 => .int
  | 3 => .int
  | 4 => .int
  | 5 => .int
  | 6 => .int
  | 7 => .int
  | 8 => .int
  | 9 => .int
  | 10 => .int
  | 11 => .int
  | _ => .int
abbrev wsX40 : List Cond := u_ws RX4 TX4 13
theorem nmX4 : ∀ a, a < 13 → ∀ b, b < 13 → a ≠ b → (TX4 a).2.1 ≠ (TX4 b).2.1 := by decide +kernel
theorem tyX4_ok : ∀ k, k < 13 → parseFieldDescriptor (TX4 k).2.2.1 = some (tyX4 k) := by decide +kernel
abbrev cX4_init : ByteArray := prog_6_method_1_code
def yX4_init : MethodName := ⟨RX4, "<init>", "()V"⟩
abbrev cX4_copyFrom : ByteArray := prog_6_method_2_code
def yX4_copyFrom : MethodName := ⟨RX4, "copyFrom", "(LPaperStations$Station;)V"⟩
abbrev cX4_becomeSumOf : ByteArray := prog_6_method_3_code
def yX4_becomeSumOf : MethodName := ⟨RX4, "becomeSumOf", "([LPaperStations$Station;I)V"⟩
abbrev cX4_serveQueue : ByteArray := prog_6_method_4_code
def yX4_serveQueue : MethodName := ⟨RX4, "serveQueue", "(I)I"⟩
abbrev cX4_allArrivals : ByteArray := prog_6_method_5_code
def yX4_allArrivals : MethodName := ⟨RX4, "allArrivals", "()I"⟩
abbrev cX4_isCounted : ByteArray := prog_6_method_6_code
def yX4_isCounted : MethodName := ⟨RX4, "isCounted", "()Z"⟩
abbrev cX4_countAgrees : ByteArray := prog_6_method_7_code
def yX4_countAgrees : MethodName := ⟨RX4, "countAgrees", "()Z"⟩
def RX5 : String := "PaperStations"
def TX5 : u_T := fun k => match k with
  | 0 => ("PaperStations", "day", "LPaperStations$Day;", true)
  | 1 => ("PaperStations", "forecast", "LPaperStations$Day;", true)
  | 2 => ("PaperStations", "snapshot", "LPaperStations$Day;", true)
  | 3 => ("PaperStations", "hasSnapshot", "Z", false)
  | 4 => ("PaperStations", "total", "LPaperStations$Station;", true)
  | 5 => ("PaperStations", "history", "LPaperStations$History;", true)
  | _ => ("PaperStations", "text", "LPaperStations$ArrivalText;", true)
def tyX5 : Nat → FieldType := fun k => match k with
  | 0 => .object "PaperStations$Day"
  | 1 => .object "PaperStations$Day"
  | 2 => .object "PaperStations$Day"
  | 3 => .boolean
  | 4 => .object "PaperStations$Station"
  | 5 => .object "PaperStations$History"
  | _ => .object "PaperStations$ArrivalText"
abbrev wsX50 : List Cond := u_ws RX5 TX5 7
theorem nmX5 : ∀ a, a < 7 → ∀ b, b < 7 → a ≠ b → (TX5 a).2.1 ≠ (TX5 b).2.1 := by decide +kernel
theorem tyX5_ok : ∀ k, k < 7 → parseFieldDescriptor (TX5 k).2.2.1 = some (tyX5 k) := by decide +kernel
abbrev cX5_init : ByteArray := prog_1_method_1_code
def yX5_init : MethodName := ⟨RX5, "<init>", "()V"⟩
abbrev cX5_addStation : ByteArray := prog_1_method_2_code
def yX5_addStation : MethodName := ⟨RX5, "addStation", "()I"⟩
abbrev cX5_addClerk : ByteArray := prog_1_method_3_code
def yX5_addClerk : MethodName := ⟨RX5, "addClerk", "(II)I"⟩
abbrev cX5_setArrivals : ByteArray := prog_1_method_4_code
def yX5_setArrivals : MethodName := ⟨RX5, "setArrivals", "(III)I"⟩
abbrev cX5_assign : ByteArray := prog_1_method_5_code
def yX5_assign : MethodName := ⟨RX5, "assign", "(II)I"⟩
abbrev cX5_relieve : ByteArray := prog_1_method_6_code
def yX5_relieve : MethodName := ⟨RX5, "relieve", "(I)I"⟩
abbrev cX5_pass : ByteArray := prog_1_method_7_code
def yX5_pass : MethodName := ⟨RX5, "pass", "(I)I"⟩
abbrev cX5_supply : ByteArray := prog_1_method_8_code
def yX5_supply : MethodName := ⟨RX5, "supply", "(II)I"⟩
abbrev cX5_movePapers : ByteArray := prog_1_method_9_code
def yX5_movePapers : MethodName := ⟨RX5, "movePapers", "(III)I"⟩
abbrev cX5_spoil : ByteArray := prog_1_method_10_code
def yX5_spoil : MethodName := ⟨RX5, "spoil", "(II)I"⟩
abbrev cX5_carryOff : ByteArray := prog_1_method_11_code
def yX5_carryOff : MethodName := ⟨RX5, "carryOff", "(II)I"⟩
abbrev cX5_find : ByteArray := prog_1_method_12_code
def yX5_find : MethodName := ⟨RX5, "find", "(II)I"⟩
abbrev cX5_countBox : ByteArray := prog_1_method_13_code
def yX5_countBox : MethodName := ⟨RX5, "countBox", "(II)I"⟩
abbrev cX5_type : ByteArray := prog_1_method_14_code
def yX5_type : MethodName := ⟨RX5, "type", "(C)I"⟩
abbrev cX5_clearText : ByteArray := prog_1_method_15_code
def yX5_clearText : MethodName := ⟨RX5, "clearText", "()I"⟩
abbrev cX5_readArrivals : ByteArray := prog_1_method_16_code
def yX5_readArrivals : MethodName := ⟨RX5, "readArrivals", "(II)I"⟩
abbrev cX5_undo : ByteArray := prog_1_method_17_code
def yX5_undo : MethodName := ⟨RX5, "undo", "()I"⟩
abbrev cX5_keep : ByteArray := prog_1_method_18_code
def yX5_keep : MethodName := ⟨RX5, "keep", "()I"⟩
abbrev cX5_restore : ByteArray := prog_1_method_19_code
def yX5_restore : MethodName := ⟨RX5, "restore", "()I"⟩
abbrev cX5_station : ByteArray := prog_1_method_20_code
def yX5_station : MethodName := ⟨RX5, "station", "(II)I"⟩
abbrev cX5_papers : ByteArray := prog_1_method_21_code
def yX5_papers : MethodName := ⟨RX5, "papers", "(II)I"⟩
abbrev cX5_clerk : ByteArray := prog_1_method_22_code
def yX5_clerk : MethodName := ⟨RX5, "clerk", "(II)I"⟩
abbrev cX5_arrivals : ByteArray := prog_1_method_23_code
def yX5_arrivals : MethodName := ⟨RX5, "arrivals", "(II)I"⟩
abbrev cX5_free : ByteArray := prog_1_method_24_code
def yX5_free : MethodName := ⟨RX5, "free", "(I)I"⟩
abbrev cX5_busiest : ByteArray := prog_1_method_25_code
def yX5_busiest : MethodName := ⟨RX5, "busiest", "(I)I"⟩
abbrev cX5_queueIn : ByteArray := prog_1_method_26_code
def yX5_queueIn : MethodName := ⟨RX5, "queueIn", "(II)I"⟩
abbrev cX5_lacks : ByteArray := prog_1_method_27_code
def yX5_lacks : MethodName := ⟨RX5, "lacks", "(I)I"⟩
abbrev cX5_count : ByteArray := prog_1_method_28_code
def yX5_count : MethodName := ⟨RX5, "count", "(I)I"⟩
abbrev cX5_total : ByteArray := prog_1_method_29_code
def yX5_total : MethodName := ⟨RX5, "total", "()LPaperStations$Station;"⟩
abbrev cX5_isHourToCome : ByteArray := prog_1_method_30_code
def yX5_isHourToCome : MethodName := ⟨RX5, "isHourToCome", "(I)Z"⟩
abbrev cX5_isPaperNumber : ByteArray := prog_1_method_31_code
def yX5_isPaperNumber : MethodName := ⟨RX5, "isPaperNumber", "(I)Z"⟩
abbrev cX5_isWithin : ByteArray := prog_1_method_32_code
def yX5_isWithin : MethodName := ⟨RX5, "isWithin", "(III)Z"⟩
def RX6 : String := "PaperStationsModel"
def TX6 : u_T := fun k => match k with
  | 0 => ("PaperStationsModel", "now", "[I", true)
  | 1 => ("PaperStationsModel", "past", "[I", true)
  | 2 => ("PaperStationsModel", "pasts", "I", false)
  | 3 => ("PaperStationsModel", "kept", "[I", true)
  | 4 => ("PaperStationsModel", "isKept", "Z", false)
  | 5 => ("PaperStationsModel", "trial", "[I", true)
  | 6 => ("PaperStationsModel", "text", "[I", true)
  | 7 => ("PaperStationsModel", "typed", "I", false)
  | 8 => ("PaperStationsModel", "numbers", "[I", true)
  | _ => ("PaperStationsModel", "numberMany", "I", false)
def tyX6 : Nat → FieldType := fun k => match k with
  | 0 => .array .int
  | 1 => .array .int
  | 2 => .int
  | 3 => .array .int
  | 4 => .boolean
  | 5 => .array .int
  | 6 => .array .int
  | 7 => .int
  | 8 => .array .int
  | _ => .int
abbrev wsX60 : List Cond := u_ws RX6 TX6 10
theorem nmX6 : ∀ a, a < 10 → ∀ b, b < 10 → a ≠ b → (TX6 a).2.1 ≠ (TX6 b).2.1 := by decide +kernel
theorem tyX6_ok : ∀ k, k < 10 → parseFieldDescriptor (TX6 k).2.2.1 = some (tyX6 k) := by decide +kernel
abbrev cX6_init : ByteArray := prog_8_method_1_code
def yX6_init : MethodName := ⟨RX6, "<init>", "()V"⟩
abbrev cX6_in : ByteArray := prog_8_method_2_code
def yX6_in : MethodName := ⟨RX6, "in", "(III)Z"⟩
abbrev cX6_copies : ByteArray := prog_8_method_3_code
def yX6_copies : MethodName := ⟨RX6, "copies", "([II[II)V"⟩
abbrev cX6_records : ByteArray := prog_8_method_4_code
def yX6_records : MethodName := ⟨RX6, "records", "()V"⟩
abbrev cX6_isStation : ByteArray := prog_8_method_5_code
def yX6_isStation : MethodName := ⟨RX6, "isStation", "(I)Z"⟩
abbrev cX6_isClerk : ByteArray := prog_8_method_6_code
def yX6_isClerk : MethodName := ⟨RX6, "isClerk", "(I)Z"⟩
abbrev cX6_of : ByteArray := prog_8_method_7_code
def yX6_of : MethodName := ⟨RX6, "of", "(II)I"⟩
abbrev cX6_adds : ByteArray := prog_8_method_8_code
def yX6_adds : MethodName := ⟨RX6, "adds", "(III)V"⟩
abbrev cX6_ofClerk : ByteArray := prog_8_method_9_code
def yX6_ofClerk : MethodName := ⟨RX6, "ofClerk", "(II)I"⟩
abbrev cX6_laysClerk : ByteArray := prog_8_method_10_code
def yX6_laysClerk : MethodName := ⟨RX6, "laysClerk", "(III)V"⟩
abbrev cX6_addStation : ByteArray := prog_8_method_11_code
def yX6_addStation : MethodName := ⟨RX6, "addStation", "()I"⟩
abbrev cX6_addClerk : ByteArray := prog_8_method_12_code
def yX6_addClerk : MethodName := ⟨RX6, "addClerk", "(II)I"⟩
abbrev cX6_setArrivals : ByteArray := prog_8_method_13_code
def yX6_setArrivals : MethodName := ⟨RX6, "setArrivals", "(III)I"⟩
abbrev cX6_isFree : ByteArray := prog_8_method_14_code
def yX6_isFree : MethodName := ⟨RX6, "isFree", "(I)Z"⟩
abbrev cX6_aheadOf : ByteArray := prog_8_method_15_code
def yX6_aheadOf : MethodName := ⟨RX6, "aheadOf", "(I)I"⟩
abbrev cX6_freeAt : ByteArray := prog_8_method_16_code
def yX6_freeAt : MethodName := ⟨RX6, "freeAt", "(I)I"⟩
abbrev cX6_onDutyAt : ByteArray := prog_8_method_17_code
def yX6_onDutyAt : MethodName := ⟨RX6, "onDutyAt", "(I)I"⟩
abbrev cX6_serveAt : ByteArray := prog_8_method_18_code
def yX6_serveAt : MethodName := ⟨RX6, "serveAt", "(I)I"⟩
abbrev cX6_assign : ByteArray := prog_8_method_19_code
def yX6_assign : MethodName := ⟨RX6, "assign", "(II)I"⟩
abbrev cX6_leaves : ByteArray := prog_8_method_20_code
def yX6_leaves : MethodName := ⟨RX6, "leaves", "(II)V"⟩
abbrev cX6_relieve : ByteArray := prog_8_method_21_code
def yX6_relieve : MethodName := ⟨RX6, "relieve", "(I)I"⟩
abbrev cX6_serves : ByteArray := prog_8_method_22_code
def yX6_serves : MethodName := ⟨RX6, "serves", "(I)I"⟩
abbrev cX6_takesTurns : ByteArray := prog_8_method_23_code
def yX6_takesTurns : MethodName := ⟨RX6, "takesTurns", "()V"⟩
abbrev cX6_hourPasses : ByteArray := prog_8_method_24_code
def yX6_hourPasses : MethodName := ⟨RX6, "hourPasses", "()I"⟩
abbrev cX6_hoursPass : ByteArray := prog_8_method_25_code
def yX6_hoursPass : MethodName := ⟨RX6, "hoursPass", "(I)I"⟩
abbrev cX6_pass : ByteArray := prog_8_method_26_code
def yX6_pass : MethodName := ⟨RX6, "pass", "(I)I"⟩
abbrev cX6_supply : ByteArray := prog_8_method_27_code
def yX6_supply : MethodName := ⟨RX6, "supply", "(II)I"⟩
abbrev cX6_movePapers : ByteArray := prog_8_method_28_code
def yX6_movePapers : MethodName := ⟨RX6, "movePapers", "(III)I"⟩
abbrev cX6_spoil : ByteArray := prog_8_method_29_code
def yX6_spoil : MethodName := ⟨RX6, "spoil", "(II)I"⟩
abbrev cX6_carryOff : ByteArray := prog_8_method_30_code
def yX6_carryOff : MethodName := ⟨RX6, "carryOff", "(II)I"⟩
abbrev cX6_find : ByteArray := prog_8_method_31_code
def yX6_find : MethodName := ⟨RX6, "find", "(II)I"⟩
abbrev cX6_countBox : ByteArray := prog_8_method_32_code
def yX6_countBox : MethodName := ⟨RX6, "countBox", "(II)I"⟩
abbrev cX6_type : ByteArray := prog_8_method_33_code
def yX6_type : MethodName := ⟨RX6, "type", "(C)I"⟩
abbrev cX6_clearText : ByteArray := prog_8_method_34_code
def yX6_clearText : MethodName := ⟨RX6, "clearText", "()I"⟩
abbrev cX6_signAt : ByteArray := prog_8_method_35_code
def yX6_signAt : MethodName := ⟨RX6, "signAt", "(I)I"⟩
abbrev cX6_faultOf : ByteArray := prog_8_method_36_code
def yX6_faultOf : MethodName := ⟨RX6, "faultOf", "()I"⟩
abbrev cX6_readArrivals : ByteArray := prog_8_method_37_code
def yX6_readArrivals : MethodName := ⟨RX6, "readArrivals", "(II)I"⟩
abbrev cX6_undo : ByteArray := prog_8_method_38_code
def yX6_undo : MethodName := ⟨RX6, "undo", "()I"⟩
abbrev cX6_keep : ByteArray := prog_8_method_39_code
def yX6_keep : MethodName := ⟨RX6, "keep", "()I"⟩
abbrev cX6_restore : ByteArray := prog_8_method_40_code
def yX6_restore : MethodName := ⟨RX6, "restore", "()I"⟩
abbrev cX6_toServe : ByteArray := prog_8_method_41_code
def yX6_toServe : MethodName := ⟨RX6, "toServe", "(I)I"⟩
abbrev cX6_arrivalsAll : ByteArray := prog_8_method_42_code
def yX6_arrivalsAll : MethodName := ⟨RX6, "arrivalsAll", "(I)I"⟩
abbrev cX6_station : ByteArray := prog_8_method_43_code
def yX6_station : MethodName := ⟨RX6, "station", "(II)I"⟩
abbrev cX6_papers : ByteArray := prog_8_method_44_code
def yX6_papers : MethodName := ⟨RX6, "papers", "(II)I"⟩
abbrev cX6_clerk : ByteArray := prog_8_method_45_code
def yX6_clerk : MethodName := ⟨RX6, "clerk", "(II)I"⟩
abbrev cX6_arrivals : ByteArray := prog_8_method_46_code
def yX6_arrivals : MethodName := ⟨RX6, "arrivals", "(II)I"⟩
abbrev cX6_free : ByteArray := prog_8_method_47_code
def yX6_free : MethodName := ⟨RX6, "free", "(I)I"⟩
abbrev cX6_busiest : ByteArray := prog_8_method_48_code
def yX6_busiest : MethodName := ⟨RX6, "busiest", "(I)I"⟩
abbrev cX6_queueIn : ByteArray := prog_8_method_49_code
def yX6_queueIn : MethodName := ⟨RX6, "queueIn", "(II)I"⟩
abbrev cX6_lacks : ByteArray := prog_8_method_50_code
def yX6_lacks : MethodName := ⟨RX6, "lacks", "(I)I"⟩
abbrev cX6_overStations : ByteArray := prog_8_method_51_code
def yX6_overStations : MethodName := ⟨RX6, "overStations", "(I)I"⟩
abbrev cX6_countedAs : ByteArray := prog_8_method_52_code
def yX6_countedAs : MethodName := ⟨RX6, "countedAs", "(Z)I"⟩
abbrev cX6_overClerks : ByteArray := prog_8_method_53_code
def yX6_overClerks : MethodName := ⟨RX6, "overClerks", "(I)I"⟩
abbrev cX6_count : ByteArray := prog_8_method_54_code
def yX6_count : MethodName := ⟨RX6, "count", "(I)I"⟩
def RJ9 : String := "java/lang/Math"
def TJ9 : u_T := fun k => match k with
  | _ => ("", "", "", false)
def tyJ9 : Nat → FieldType := fun k => match k with
  | _ => .int
abbrev wsJ90 : List Cond := u_ws RJ9 TJ9 0
theorem nmJ9 : ∀ a, a < 0 → ∀ b, b < 0 → a ≠ b → (TJ9 a).2.1 ≠ (TJ9 b).2.1 := by decide +kernel
theorem tyJ9_ok : ∀ k, k < 0 → parseFieldDescriptor (TJ9 k).2.2.1 = some (tyJ9 k) := by decide +kernel
abbrev cJ9_max_7cf53 : ByteArray := prog_9_method_65_code
def yJ9_max_7cf53 : MethodName := ⟨RJ9, "max", "(II)I"⟩
abbrev cJ9_min_7cf53 : ByteArray := prog_9_method_69_code
def yJ9_min_7cf53 : MethodName := ⟨RJ9, "min", "(II)I"⟩
def RJ10 : String := "java/lang/System"
def TJ10 : u_T := fun k => match k with
  | _ => ("", "", "", false)
def tyJ10 : Nat → FieldType := fun k => match k with
  | _ => .int
abbrev wsJ100 : List Cond := u_ws RJ10 TJ10 0
theorem nmJ10 : ∀ a, a < 0 → ∀ b, b < 0 → a ≠ b → (TJ10 a).2.1 ≠ (TJ10 b).2.1 := by decide +kernel
theorem tyJ10_ok : ∀ k, k < 0 → parseFieldDescriptor (TJ10 k).2.2.1 = some (tyJ10 k) := by decide +kernel
def RL : String := "PaperStationsLaw"
abbrev cL_law : ByteArray := code
def yL_law : MethodName := ⟨RL, "law", "([I)Z"⟩
abbrev vwCl : List vw_C := [(RX0, TX0, 3), (RX1, TX1, 6), (RX2, TX2, 5), (RX3, TX3, 2), (RX4, TX4, 13), (RX5, TX5, 7), (RX6, TX6, 10)]
/-- the tables' words that pass from state to state -/
def ps_T : List Cond := lw_tbl.filter goodWord
theorem ps_in {w : Cond} (i : Nat) (h : lw_tbl[i]? = some w) (g : goodWord w = true) : w ∈ ps_T := List.mem_filter.mpr ⟨List.mem_of_getElem? h, g⟩
theorem ps_ins (ws : List Cond) (ps : List Nat) (hp : ws = ps.filterMap (fun i => lw_tbl[i]?)) (g : ws.all goodWord = true) : ∀ w ∈ ws, w ∈ ps_T := by
  intro w hw
  have h1 := List.all_eq_true.mp g w hw
  rw [hp] at hw
  obtain ⟨i, -, hi⟩ := List.mem_filterMap.mp hw
  exact ps_in i hi h1
theorem ps_goodT : GoodIn lw_tbl ps_T := fun w h => ⟨(List.mem_filter.mp h).1, good_of_word (List.mem_filter.mp h).2⟩
theorem hinX0 : ∀ w ∈ u_ws RX0 TX0 3, w ∈ ps_T := ps_ins _ [207, 209, 211] (by decide +kernel) (by decide +kernel)
theorem hinX1 : ∀ w ∈ u_ws RX1 TX1 6, w ∈ ps_T := ps_ins _ [142, 144, 146, 148, 150, 152] (by decide +kernel) (by decide +kernel)
theorem hinX2 : ∀ w ∈ u_ws RX2 TX2 5, w ∈ ps_T := ps_ins _ [165, 167, 169, 171, 173] (by decide +kernel) (by decide +kernel)
theorem hinX3 : ∀ w ∈ u_ws RX3 TX3 2, w ∈ ps_T := ps_ins _ [190, 192] (by decide +kernel) (by decide +kernel)
theorem hinX4 : ∀ w ∈ u_ws RX4 TX4 13, w ∈ ps_T := ps_ins _ [92, 94, 96, 98, 100, 102, 104, 106, 108, 110, 112, 114, 116] (by decide +kernel) (by decide +kernel)
theorem hinX5 : ∀ w ∈ u_ws RX5 TX5 7, w ∈ ps_T := ps_ins _ [222, 224, 226, 228, 230, 232, 234] (by decide +kernel) (by decide +kernel)
theorem hinX6 : ∀ w ∈ u_ws RX6 TX6 10, w ∈ ps_T := ps_ins _ [561, 563, 565, 567, 569, 571, 573, 575, 577, 579] (by decide +kernel) (by decide +kernel)
theorem lk_L_7 : Cond.classLink RL 7 RX5 ∈ ps_T := ps_in 43 (by decide +kernel) (by decide +kernel)
theorem lk_L_9 : Cond.methodLink RL 9 yX5_init ∈ ps_T := ps_in 45 (by decide +kernel) (by decide +kernel)
theorem lk_X5_3 : Cond.methodLink RX5 3 objectInit ∈ ps_T := ps_in 48 (by decide +kernel) (by decide +kernel)
theorem lk_X5_9 : Cond.classLink RX5 9 RX2 ∈ ps_T := ps_in 51 (by decide +kernel) (by decide +kernel)
theorem lk_X5_11 : Cond.methodLink RX5 11 yX2_init ∈ ps_T := ps_in 53 (by decide +kernel) (by decide +kernel)
theorem lk_X2_3 : Cond.methodLink RX2 3 objectInit ∈ ps_T := ps_in 56 (by decide +kernel) (by decide +kernel)
theorem lk_X2_9 : Cond.classLink RX2 9 RX4 ∈ ps_T := ps_in 57 (by decide +kernel) (by decide +kernel)
theorem lk_X2_17 : Cond.methodLink RX2 17 yX4_init ∈ ps_T := ps_in 60 (by decide +kernel) (by decide +kernel)
theorem lk_X4_3 : Cond.methodLink RX4 3 objectInit ∈ ps_T := ps_in 63 (by decide +kernel) (by decide +kernel)
theorem lk_X4_9 : Cond.fieldLink RX4 9 "PaperStations$Station" "arrivals" "[I" ∈ ps_T := ps_in 64 (by decide +kernel) (by decide +kernel)
theorem lk_X5_73 : Cond.fieldLink RX5 73 "PaperStations$Station" "arrivals" "[I" ∈ ps_T := ps_in 65 (by decide +kernel) (by decide +kernel)
theorem lk_X2_64 : Cond.fieldLink RX2 64 "PaperStations$Station" "arrivals" "[I" ∈ ps_T := ps_in 66 (by decide +kernel) (by decide +kernel)
theorem lk_X4_21 : Cond.fieldLink RX4 21 "PaperStations$Station" "queue" "I" ∈ ps_T := ps_in 67 (by decide +kernel) (by decide +kernel)
theorem lk_X2_61 : Cond.fieldLink RX2 61 "PaperStations$Station" "queue" "I" ∈ ps_T := ps_in 68 (by decide +kernel) (by decide +kernel)
theorem lk_X5_135 : Cond.fieldLink RX5 135 "PaperStations$Station" "queue" "I" ∈ ps_T := ps_in 69 (by decide +kernel) (by decide +kernel)
theorem lk_X4_25 : Cond.fieldLink RX4 25 "PaperStations$Station" "longestQueue" "I" ∈ ps_T := ps_in 70 (by decide +kernel) (by decide +kernel)
theorem lk_X5_183 : Cond.fieldLink RX5 183 "PaperStations$Station" "longestQueue" "I" ∈ ps_T := ps_in 71 (by decide +kernel) (by decide +kernel)
theorem lk_X4_28 : Cond.fieldLink RX4 28 "PaperStations$Station" "served" "I" ∈ ps_T := ps_in 72 (by decide +kernel) (by decide +kernel)
theorem lk_X5_186 : Cond.fieldLink RX5 186 "PaperStations$Station" "served" "I" ∈ ps_T := ps_in 73 (by decide +kernel) (by decide +kernel)
theorem lk_X4_31 : Cond.fieldLink RX4 31 "PaperStations$Station" "hoursWaited" "I" ∈ ps_T := ps_in 74 (by decide +kernel) (by decide +kernel)
theorem lk_X5_189 : Cond.fieldLink RX5 189 "PaperStations$Station" "hoursWaited" "I" ∈ ps_T := ps_in 75 (by decide +kernel) (by decide +kernel)
theorem lk_X4_34 : Cond.fieldLink RX4 34 "PaperStations$Station" "stock" "I" ∈ ps_T := ps_in 76 (by decide +kernel) (by decide +kernel)
theorem lk_X5_116 : Cond.fieldLink RX5 116 "PaperStations$Station" "stock" "I" ∈ ps_T := ps_in 77 (by decide +kernel) (by decide +kernel)
theorem lk_X4_37 : Cond.fieldLink RX4 37 "PaperStations$Station" "issued" "I" ∈ ps_T := ps_in 78 (by decide +kernel) (by decide +kernel)
theorem lk_X5_125 : Cond.fieldLink RX5 125 "PaperStations$Station" "issued" "I" ∈ ps_T := ps_in 79 (by decide +kernel) (by decide +kernel)
theorem lk_X4_40 : Cond.fieldLink RX4 40 "PaperStations$Station" "spoilt" "I" ∈ ps_T := ps_in 80 (by decide +kernel) (by decide +kernel)
theorem lk_X5_122 : Cond.fieldLink RX5 122 "PaperStations$Station" "spoilt" "I" ∈ ps_T := ps_in 81 (by decide +kernel) (by decide +kernel)
theorem lk_X4_43 : Cond.fieldLink RX4 43 "PaperStations$Station" "carriedOff" "I" ∈ ps_T := ps_in 82 (by decide +kernel) (by decide +kernel)
theorem lk_X5_128 : Cond.fieldLink RX5 128 "PaperStations$Station" "carriedOff" "I" ∈ ps_T := ps_in 83 (by decide +kernel) (by decide +kernel)
theorem lk_X4_46 : Cond.fieldLink RX4 46 "PaperStations$Station" "found" "I" ∈ ps_T := ps_in 84 (by decide +kernel) (by decide +kernel)
theorem lk_X5_131 : Cond.fieldLink RX5 131 "PaperStations$Station" "found" "I" ∈ ps_T := ps_in 85 (by decide +kernel) (by decide +kernel)
theorem lk_X4_49 : Cond.fieldLink RX4 49 "PaperStations$Station" "box" "I" ∈ ps_T := ps_in 86 (by decide +kernel) (by decide +kernel)
theorem lk_X5_119 : Cond.fieldLink RX5 119 "PaperStations$Station" "box" "I" ∈ ps_T := ps_in 87 (by decide +kernel) (by decide +kernel)
theorem lk_X4_52 : Cond.fieldLink RX4 52 "PaperStations$Station" "latestCount" "I" ∈ ps_T := ps_in 88 (by decide +kernel) (by decide +kernel)
theorem lk_X5_141 : Cond.fieldLink RX5 141 "PaperStations$Station" "latestCount" "I" ∈ ps_T := ps_in 89 (by decide +kernel) (by decide +kernel)
theorem lk_X4_55 : Cond.fieldLink RX4 55 "PaperStations$Station" "timesCounted" "I" ∈ ps_T := ps_in 90 (by decide +kernel) (by decide +kernel)
theorem lk_X5_138 : Cond.fieldLink RX5 138 "PaperStations$Station" "timesCounted" "I" ∈ ps_T := ps_in 91 (by decide +kernel) (by decide +kernel)
theorem lk_X2_18 : Cond.classLink RX2 18 RX1 ∈ ps_T := ps_in 120 (by decide +kernel) (by decide +kernel)
theorem lk_X2_24 : Cond.methodLink RX2 24 yX1_init ∈ ps_T := ps_in 123 (by decide +kernel) (by decide +kernel)
theorem lk_X1_3 : Cond.methodLink RX1 3 objectInit ∈ ps_T := ps_in 126 (by decide +kernel) (by decide +kernel)
theorem lk_X1_15 : Cond.fieldLink RX1 15 "PaperStations$Clerk" "serves" "I" ∈ ps_T := ps_in 127 (by decide +kernel) (by decide +kernel)
theorem lk_X2_42 : Cond.fieldLink RX2 42 "PaperStations$Clerk" "serves" "I" ∈ ps_T := ps_in 128 (by decide +kernel) (by decide +kernel)
theorem lk_X5_205 : Cond.fieldLink RX5 205 "PaperStations$Clerk" "serves" "I" ∈ ps_T := ps_in 129 (by decide +kernel) (by decide +kernel)
theorem lk_X1_18 : Cond.fieldLink RX1 18 "PaperStations$Clerk" "longestRun" "I" ∈ ps_T := ps_in 130 (by decide +kernel) (by decide +kernel)
theorem lk_X2_45 : Cond.fieldLink RX2 45 "PaperStations$Clerk" "longestRun" "I" ∈ ps_T := ps_in 131 (by decide +kernel) (by decide +kernel)
theorem lk_X5_208 : Cond.fieldLink RX5 208 "PaperStations$Clerk" "longestRun" "I" ∈ ps_T := ps_in 132 (by decide +kernel) (by decide +kernel)
theorem lk_X1_9 : Cond.fieldLink RX1 9 "PaperStations$Clerk" "dutyStation" "I" ∈ ps_T := ps_in 133 (by decide +kernel) (by decide +kernel)
theorem lk_X2_72 : Cond.fieldLink RX2 72 "PaperStations$Clerk" "dutyStation" "I" ∈ ps_T := ps_in 134 (by decide +kernel) (by decide +kernel)
theorem lk_X5_211 : Cond.fieldLink RX5 211 "PaperStations$Clerk" "dutyStation" "I" ∈ ps_T := ps_in 135 (by decide +kernel) (by decide +kernel)
theorem lk_X1_21 : Cond.fieldLink RX1 21 "PaperStations$Clerk" "run" "I" ∈ ps_T := ps_in 136 (by decide +kernel) (by decide +kernel)
theorem lk_X5_101 : Cond.fieldLink RX5 101 "PaperStations$Clerk" "run" "I" ∈ ps_T := ps_in 137 (by decide +kernel) (by decide +kernel)
theorem lk_X1_24 : Cond.fieldLink RX1 24 "PaperStations$Clerk" "hoursWorked" "I" ∈ ps_T := ps_in 138 (by decide +kernel) (by decide +kernel)
theorem lk_X2_102 : Cond.fieldLink RX2 102 "PaperStations$Clerk" "hoursWorked" "I" ∈ ps_T := ps_in 139 (by decide +kernel) (by decide +kernel)
theorem lk_X5_214 : Cond.fieldLink RX5 214 "PaperStations$Clerk" "hoursWorked" "I" ∈ ps_T := ps_in 140 (by decide +kernel) (by decide +kernel)
theorem lk_X1_27 : Cond.fieldLink RX1 27 "PaperStations$Clerk" "restEnds" "I" ∈ ps_T := ps_in 141 (by decide +kernel) (by decide +kernel)
theorem lk_X2_25 : Cond.fieldLink RX2 25 "PaperStations$Day" "hour" "I" ∈ ps_T := ps_in 155 (by decide +kernel) (by decide +kernel)
theorem lk_X5_107 : Cond.fieldLink RX5 107 "PaperStations$Day" "hour" "I" ∈ ps_T := ps_in 156 (by decide +kernel) (by decide +kernel)
theorem lk_X5_43 : Cond.fieldLink RX5 43 "PaperStations$Day" "stationCount" "I" ∈ ps_T := ps_in 157 (by decide +kernel) (by decide +kernel)
theorem lk_X2_29 : Cond.fieldLink RX2 29 "PaperStations$Day" "stationCount" "I" ∈ ps_T := ps_in 158 (by decide +kernel) (by decide +kernel)
theorem lk_X2_32 : Cond.fieldLink RX2 32 "PaperStations$Day" "clerkCount" "I" ∈ ps_T := ps_in 159 (by decide +kernel) (by decide +kernel)
theorem lk_X5_55 : Cond.fieldLink RX5 55 "PaperStations$Day" "clerkCount" "I" ∈ ps_T := ps_in 160 (by decide +kernel) (by decide +kernel)
theorem lk_X2_11 : Cond.fieldLink RX2 11 "PaperStations$Day" "stations" "[LPaperStations$Station;" ∈ ps_T := ps_in 161 (by decide +kernel) (by decide +kernel)
theorem lk_X5_69 : Cond.fieldLink RX5 69 "PaperStations$Day" "stations" "[LPaperStations$Station;" ∈ ps_T := ps_in 162 (by decide +kernel) (by decide +kernel)
theorem lk_X2_20 : Cond.fieldLink RX2 20 "PaperStations$Day" "clerks" "[LPaperStations$Clerk;" ∈ ps_T := ps_in 163 (by decide +kernel) (by decide +kernel)
theorem lk_X5_80 : Cond.fieldLink RX5 80 "PaperStations$Day" "clerks" "[LPaperStations$Clerk;" ∈ ps_T := ps_in 164 (by decide +kernel) (by decide +kernel)
theorem lk_X5_22 : Cond.classLink RX5 22 RX4 ∈ ps_T := ps_in 176 (by decide +kernel) (by decide +kernel)
theorem lk_X5_24 : Cond.methodLink RX5 24 yX4_init ∈ ps_T := ps_in 177 (by decide +kernel) (by decide +kernel)
theorem lk_X5_29 : Cond.classLink RX5 29 RX3 ∈ ps_T := ps_in 178 (by decide +kernel) (by decide +kernel)
theorem lk_X5_31 : Cond.methodLink RX5 31 yX3_init ∈ ps_T := ps_in 180 (by decide +kernel) (by decide +kernel)
theorem lk_X3_3 : Cond.methodLink RX3 3 objectInit ∈ ps_T := ps_in 183 (by decide +kernel) (by decide +kernel)
theorem lk_X3_9 : Cond.classLink RX3 9 RX2 ∈ ps_T := ps_in 184 (by decide +kernel) (by decide +kernel)
theorem lk_X3_17 : Cond.methodLink RX3 17 yX2_init ∈ ps_T := ps_in 186 (by decide +kernel) (by decide +kernel)
theorem lk_X3_11 : Cond.fieldLink RX3 11 "PaperStations$History" "states" "[LPaperStations$Day;" ∈ ps_T := ps_in 187 (by decide +kernel) (by decide +kernel)
theorem lk_X3_18 : Cond.fieldLink RX3 18 "PaperStations$History" "size" "I" ∈ ps_T := ps_in 188 (by decide +kernel) (by decide +kernel)
theorem lk_X5_170 : Cond.fieldLink RX5 170 "PaperStations$History" "size" "I" ∈ ps_T := ps_in 189 (by decide +kernel) (by decide +kernel)
theorem lk_X5_36 : Cond.classLink RX5 36 RX0 ∈ ps_T := ps_in 195 (by decide +kernel) (by decide +kernel)
theorem lk_X5_38 : Cond.methodLink RX5 38 yX0_init ∈ ps_T := ps_in 197 (by decide +kernel) (by decide +kernel)
theorem lk_X0_3 : Cond.methodLink RX0 3 objectInit ∈ ps_T := ps_in 200 (by decide +kernel) (by decide +kernel)
theorem lk_X0_9 : Cond.fieldLink RX0 9 "PaperStations$ArrivalText" "signs" "[C" ∈ ps_T := ps_in 201 (by decide +kernel) (by decide +kernel)
theorem lk_X5_147 : Cond.fieldLink RX5 147 "PaperStations$ArrivalText" "signs" "[C" ∈ ps_T := ps_in 202 (by decide +kernel) (by decide +kernel)
theorem lk_X0_15 : Cond.fieldLink RX0 15 "PaperStations$ArrivalText" "numbers" "[I" ∈ ps_T := ps_in 203 (by decide +kernel) (by decide +kernel)
theorem lk_X5_161 : Cond.fieldLink RX5 161 "PaperStations$ArrivalText" "numbers" "[I" ∈ ps_T := ps_in 204 (by decide +kernel) (by decide +kernel)
theorem lk_X0_19 : Cond.fieldLink RX0 19 "PaperStations$ArrivalText" "length" "I" ∈ ps_T := ps_in 205 (by decide +kernel) (by decide +kernel)
theorem lk_X5_144 : Cond.fieldLink RX5 144 "PaperStations$ArrivalText" "length" "I" ∈ ps_T := ps_in 206 (by decide +kernel) (by decide +kernel)
theorem lk_X5_12 : Cond.fieldLink RX5 12 "PaperStations" "day" "LPaperStations$Day;" ∈ ps_T := ps_in 215 (by decide +kernel) (by decide +kernel)
theorem lk_X5_16 : Cond.fieldLink RX5 16 "PaperStations" "forecast" "LPaperStations$Day;" ∈ ps_T := ps_in 216 (by decide +kernel) (by decide +kernel)
theorem lk_X5_19 : Cond.fieldLink RX5 19 "PaperStations" "snapshot" "LPaperStations$Day;" ∈ ps_T := ps_in 217 (by decide +kernel) (by decide +kernel)
theorem lk_X5_179 : Cond.fieldLink RX5 179 "PaperStations" "hasSnapshot" "Z" ∈ ps_T := ps_in 218 (by decide +kernel) (by decide +kernel)
theorem lk_X5_25 : Cond.fieldLink RX5 25 "PaperStations" "total" "LPaperStations$Station;" ∈ ps_T := ps_in 219 (by decide +kernel) (by decide +kernel)
theorem lk_X5_32 : Cond.fieldLink RX5 32 "PaperStations" "history" "LPaperStations$History;" ∈ ps_T := ps_in 220 (by decide +kernel) (by decide +kernel)
theorem lk_X5_39 : Cond.fieldLink RX5 39 "PaperStations" "text" "LPaperStations$ArrivalText;" ∈ ps_T := ps_in 221 (by decide +kernel) (by decide +kernel)
theorem lk_L_13 : Cond.methodLink RL 13 yX5_addStation ∈ ps_T := ps_in 237 (by decide +kernel) (by decide +kernel)
theorem lk_X5_47 : Cond.methodLink RX5 47 yX3_remember ∈ ps_T := ps_in 241 (by decide +kernel) (by decide +kernel)
theorem lk_X3_22 : Cond.methodLink RX3 22 yX3_dropOldest ∈ ps_T := ps_in 245 (by decide +kernel) (by decide +kernel)
theorem lk_X3_25 : Cond.methodLink RX3 25 yX2_copyFrom ∈ ps_T := ps_in 249 (by decide +kernel) (by decide +kernel)
theorem lk_X2_35 : Cond.methodLink RX2 35 yX4_copyFrom ∈ ps_T := ps_in 253 (by decide +kernel) (by decide +kernel)
theorem lk_X4_15 : Cond.methodLink RX4 15 arraycopyName ∈ ps_T := ps_in 257 (by decide +kernel) (by decide +kernel)
theorem lk_X2_39 : Cond.methodLink RX2 39 yX1_copyFrom ∈ ps_T := ps_in 260 (by decide +kernel) (by decide +kernel)
theorem lk_L_18 : Cond.methodLink RL 18 yX5_addClerk ∈ ps_T := ps_in 264 (by decide +kernel) (by decide +kernel)
theorem lk_X5_51 : Cond.methodLink RX5 51 yX5_isWithin ∈ ps_T := ps_in 268 (by decide +kernel) (by decide +kernel)
theorem lk_X5_58 : Cond.methodLink RX5 58 yX2_engageClerk ∈ ps_T := ps_in 271 (by decide +kernel) (by decide +kernel)
theorem lk_L_23 : Cond.methodLink RL 23 yX5_setArrivals ∈ ps_T := ps_in 275 (by decide +kernel) (by decide +kernel)
theorem lk_X5_62 : Cond.methodLink RX5 62 yX2_hasStation ∈ ps_T := ps_in 279 (by decide +kernel) (by decide +kernel)
theorem lk_X5_66 : Cond.methodLink RX5 66 yX5_isHourToCome ∈ ps_T := ps_in 283 (by decide +kernel) (by decide +kernel)
theorem lk_L_28 : Cond.methodLink RL 28 yX5_assign ∈ ps_T := ps_in 287 (by decide +kernel) (by decide +kernel)
theorem lk_X5_77 : Cond.methodLink RX5 77 yX2_hasClerk ∈ ps_T := ps_in 291 (by decide +kernel) (by decide +kernel)
theorem lk_X5_84 : Cond.methodLink RX5 84 yX1_isFree ∈ ps_T := ps_in 295 (by decide +kernel) (by decide +kernel)
theorem lk_X1_30 : Cond.methodLink RX1 30 yX1_isOnDuty ∈ ps_T := ps_in 299 (by decide +kernel) (by decide +kernel)
theorem lk_X1_34 : Cond.methodLink RX1 34 yX1_rests ∈ ps_T := ps_in 303 (by decide +kernel) (by decide +kernel)
theorem lk_X5_90 : Cond.methodLink RX5 90 yX1_comeTo ∈ ps_T := ps_in 307 (by decide +kernel) (by decide +kernel)
theorem lk_X5_94 : Cond.methodLink RX5 94 yX2_clerksAt ∈ ps_T := ps_in 311 (by decide +kernel) (by decide +kernel)
theorem lk_L_32 : Cond.methodLink RL 32 yX5_relieve ∈ ps_T := ps_in 315 (by decide +kernel) (by decide +kernel)
theorem lk_X5_98 : Cond.methodLink RX5 98 yX1_isOnDuty ∈ ps_T := ps_in 319 (by decide +kernel) (by decide +kernel)
theorem lk_X5_104 : Cond.methodLink RX5 104 yX1_leaveDuty ∈ ps_T := ps_in 320 (by decide +kernel) (by decide +kernel)
theorem lk_L_37 : Cond.methodLink RL 37 yX5_pass ∈ ps_T := ps_in 324 (by decide +kernel) (by decide +kernel)
theorem lk_X5_110 : Cond.methodLink RX5 110 yX2_letHoursPass ∈ ps_T := ps_in 328 (by decide +kernel) (by decide +kernel)
theorem lk_X2_48 : Cond.methodLink RX2 48 yX2_letArrive ∈ ps_T := ps_in 332 (by decide +kernel) (by decide +kernel)
theorem lk_X2_51 : Cond.methodLink RX2 51 yX2_changeClerks ∈ ps_T := ps_in 336 (by decide +kernel) (by decide +kernel)
theorem lk_X2_68 : Cond.methodLink RX2 68 yX1_mustLeave ∈ ps_T := ps_in 340 (by decide +kernel) (by decide +kernel)
theorem lk_X2_75 : Cond.methodLink RX2 75 yX1_leaveDuty ∈ ps_T := ps_in 344 (by decide +kernel) (by decide +kernel)
theorem lk_X2_79 : Cond.methodLink RX2 79 yX2_firstFree ∈ ps_T := ps_in 345 (by decide +kernel) (by decide +kernel)
theorem lk_X2_95 : Cond.methodLink RX2 95 yX1_isFree ∈ ps_T := ps_in 349 (by decide +kernel) (by decide +kernel)
theorem lk_X2_98 : Cond.methodLink RX2 98 yX2_comesBefore ∈ ps_T := ps_in 350 (by decide +kernel) (by decide +kernel)
theorem lk_X2_82 : Cond.methodLink RX2 82 yX1_comeTo ∈ ps_T := ps_in 354 (by decide +kernel) (by decide +kernel)
theorem lk_X2_54 : Cond.methodLink RX2 54 yX2_serveQueues ∈ ps_T := ps_in 355 (by decide +kernel) (by decide +kernel)
theorem lk_X2_85 : Cond.methodLink RX2 85 yX2_servedAnHourAt ∈ ps_T := ps_in 359 (by decide +kernel) (by decide +kernel)
theorem lk_X2_89 : Cond.methodLink RX2 89 yX4_serveQueue ∈ ps_T := ps_in 363 (by decide +kernel) (by decide +kernel)
theorem lk_X4_58 : Cond.methodLink RX4 58 Lib.Math.min.name ∈ ps_T := ps_in 367 (by decide +kernel) (by decide +kernel)
theorem lk_X4_64 : Cond.methodLink RX4 64 Lib.Math.max.name ∈ ps_T := ps_in 370 (by decide +kernel) (by decide +kernel)
theorem lk_X2_58 : Cond.methodLink RX2 58 yX2_endHourOfClerks ∈ ps_T := ps_in 373 (by decide +kernel) (by decide +kernel)
theorem lk_X2_92 : Cond.methodLink RX2 92 yX1_endHour ∈ ps_T := ps_in 377 (by decide +kernel) (by decide +kernel)
theorem lk_L_41 : Cond.methodLink RL 41 yX5_supply ∈ ps_T := ps_in 381 (by decide +kernel) (by decide +kernel)
theorem lk_X5_113 : Cond.methodLink RX5 113 yX5_isPaperNumber ∈ ps_T := ps_in 385 (by decide +kernel) (by decide +kernel)
theorem lk_L_45 : Cond.methodLink RL 45 yX5_movePapers ∈ ps_T := ps_in 388 (by decide +kernel) (by decide +kernel)
theorem lk_L_49 : Cond.methodLink RL 49 yX5_spoil ∈ ps_T := ps_in 392 (by decide +kernel) (by decide +kernel)
theorem lk_L_53 : Cond.methodLink RL 53 yX5_carryOff ∈ ps_T := ps_in 396 (by decide +kernel) (by decide +kernel)
theorem lk_L_57 : Cond.methodLink RL 57 yX5_find ∈ ps_T := ps_in 400 (by decide +kernel) (by decide +kernel)
theorem lk_L_61 : Cond.methodLink RL 61 yX5_countBox ∈ ps_T := ps_in 404 (by decide +kernel) (by decide +kernel)
theorem lk_X5_134 : Cond.constant RX5 134 (99999) ∈ ps_T := ps_in 408 (by decide +kernel) (by decide +kernel)
theorem lk_L_65 : Cond.methodLink RL 65 yX5_type ∈ ps_T := ps_in 409 (by decide +kernel) (by decide +kernel)
theorem lk_L_70 : Cond.methodLink RL 70 yX5_clearText ∈ ps_T := ps_in 413 (by decide +kernel) (by decide +kernel)
theorem lk_L_74 : Cond.methodLink RL 74 yX5_readArrivals ∈ ps_T := ps_in 417 (by decide +kernel) (by decide +kernel)
theorem lk_X5_151 : Cond.methodLink RX5 151 yX0_fault ∈ ps_T := ps_in 421 (by decide +kernel) (by decide +kernel)
theorem lk_X0_23 : Cond.methodLink RX0 23 yX0_isDigit ∈ ps_T := ps_in 425 (by decide +kernel) (by decide +kernel)
theorem lk_X5_155 : Cond.methodLink RX5 155 yX0_readNumbers ∈ ps_T := ps_in 428 (by decide +kernel) (by decide +kernel)
theorem lk_X5_158 : Cond.methodLink RX5 158 yX0_greatestNumber ∈ ps_T := ps_in 432 (by decide +kernel) (by decide +kernel)
theorem lk_X0_27 : Cond.methodLink RX0 27 Lib.Math.max.name ∈ ps_T := ps_in 436 (by decide +kernel) (by decide +kernel)
theorem lk_X5_164 : Cond.methodLink RX5 164 arraycopyName ∈ ps_T := ps_in 437 (by decide +kernel) (by decide +kernel)
theorem lk_L_78 : Cond.methodLink RL 78 yX5_undo ∈ ps_T := ps_in 438 (by decide +kernel) (by decide +kernel)
theorem lk_X5_173 : Cond.methodLink RX5 173 yX3_takeBackInto ∈ ps_T := ps_in 442 (by decide +kernel) (by decide +kernel)
theorem lk_L_82 : Cond.methodLink RL 82 yX5_keep ∈ ps_T := ps_in 446 (by decide +kernel) (by decide +kernel)
theorem lk_X5_176 : Cond.methodLink RX5 176 yX2_copyFrom ∈ ps_T := ps_in 450 (by decide +kernel) (by decide +kernel)
theorem lk_L_86 : Cond.methodLink RL 86 yX5_restore ∈ ps_T := ps_in 451 (by decide +kernel) (by decide +kernel)
theorem lk_L_90 : Cond.methodLink RL 90 yX5_station ∈ ps_T := ps_in 455 (by decide +kernel) (by decide +kernel)
theorem lk_X5_192 : Cond.methodLink RX5 192 yX2_servedAnHourAt ∈ ps_T := ps_in 459 (by decide +kernel) (by decide +kernel)
theorem lk_X5_195 : Cond.methodLink RX5 195 yX4_allArrivals ∈ ps_T := ps_in 460 (by decide +kernel) (by decide +kernel)
theorem lk_X5_198 : Cond.methodLink RX5 198 yX2_hoursForQueueOf ∈ ps_T := ps_in 464 (by decide +kernel) (by decide +kernel)
theorem lk_L_94 : Cond.methodLink RL 94 yX5_papers ∈ ps_T := ps_in 468 (by decide +kernel) (by decide +kernel)
theorem lk_X5_201 : Cond.methodLink RX5 201 yX4_isCounted ∈ ps_T := ps_in 472 (by decide +kernel) (by decide +kernel)
theorem lk_X5_204 : Cond.constant RX5 204 (100000) ∈ ps_T := ps_in 476 (by decide +kernel) (by decide +kernel)
theorem lk_L_98 : Cond.methodLink RL 98 yX5_clerk ∈ ps_T := ps_in 477 (by decide +kernel) (by decide +kernel)
theorem lk_X5_217 : Cond.methodLink RX5 217 yX1_rests ∈ ps_T := ps_in 481 (by decide +kernel) (by decide +kernel)
theorem lk_X5_220 : Cond.methodLink RX5 220 yX2_placeAmongFree ∈ ps_T := ps_in 482 (by decide +kernel) (by decide +kernel)
theorem lk_L_102 : Cond.methodLink RL 102 yX5_arrivals ∈ ps_T := ps_in 486 (by decide +kernel) (by decide +kernel)
theorem lk_L_106 : Cond.methodLink RL 106 yX5_free ∈ ps_T := ps_in 490 (by decide +kernel) (by decide +kernel)
theorem lk_L_110 : Cond.methodLink RL 110 yX5_busiest ∈ ps_T := ps_in 494 (by decide +kernel) (by decide +kernel)
theorem lk_X5_223 : Cond.methodLink RX5 223 yX2_placeByQueue ∈ ps_T := ps_in 498 (by decide +kernel) (by decide +kernel)
theorem lk_L_114 : Cond.methodLink RL 114 yX5_queueIn ∈ ps_T := ps_in 502 (by decide +kernel) (by decide +kernel)
theorem lk_L_118 : Cond.methodLink RL 118 yX5_lacks ∈ ps_T := ps_in 506 (by decide +kernel) (by decide +kernel)
theorem lk_X5_226 : Cond.methodLink RX5 226 Lib.Math.max.name ∈ ps_T := ps_in 510 (by decide +kernel) (by decide +kernel)
theorem lk_L_122 : Cond.methodLink RL 122 yX5_count ∈ ps_T := ps_in 511 (by decide +kernel) (by decide +kernel)
theorem lk_X5_231 : Cond.methodLink RX5 231 yX2_clerksOnDuty ∈ ps_T := ps_in 515 (by decide +kernel) (by decide +kernel)
theorem lk_X2_105 : Cond.methodLink RX2 105 yX1_isOnDuty ∈ ps_T := ps_in 519 (by decide +kernel) (by decide +kernel)
theorem lk_X5_234 : Cond.methodLink RX5 234 yX2_freeClerks ∈ ps_T := ps_in 520 (by decide +kernel) (by decide +kernel)
theorem lk_X5_237 : Cond.methodLink RX5 237 yX5_total ∈ ps_T := ps_in 524 (by decide +kernel) (by decide +kernel)
theorem lk_X5_246 : Cond.methodLink RX5 246 yX4_becomeSumOf ∈ ps_T := ps_in 528 (by decide +kernel) (by decide +kernel)
theorem lk_X5_240 : Cond.methodLink RX5 240 yX2_stationsCounted ∈ ps_T := ps_in 532 (by decide +kernel) (by decide +kernel)
theorem lk_X2_108 : Cond.methodLink RX2 108 yX4_isCounted ∈ ps_T := ps_in 536 (by decide +kernel) (by decide +kernel)
theorem lk_X2_111 : Cond.methodLink RX2 111 yX4_countAgrees ∈ ps_T := ps_in 537 (by decide +kernel) (by decide +kernel)
theorem lk_X5_244 : Cond.methodLink RX5 244 yX2_hoursWorked ∈ ps_T := ps_in 541 (by decide +kernel) (by decide +kernel)
theorem lk_L_10 : Cond.classLink RL 10 RX6 ∈ ps_T := ps_in 545 (by decide +kernel) (by decide +kernel)
theorem lk_L_12 : Cond.methodLink RL 12 yX6_init ∈ ps_T := ps_in 547 (by decide +kernel) (by decide +kernel)
theorem lk_X6_1 : Cond.methodLink RX6 1 objectInit ∈ ps_T := ps_in 550 (by decide +kernel) (by decide +kernel)
theorem lk_X6_7 : Cond.fieldLink RX6 7 "PaperStationsModel" "now" "[I" ∈ ps_T := ps_in 551 (by decide +kernel) (by decide +kernel)
theorem lk_X6_13 : Cond.fieldLink RX6 13 "PaperStationsModel" "past" "[I" ∈ ps_T := ps_in 552 (by decide +kernel) (by decide +kernel)
theorem lk_X6_28 : Cond.fieldLink RX6 28 "PaperStationsModel" "pasts" "I" ∈ ps_T := ps_in 553 (by decide +kernel) (by decide +kernel)
theorem lk_X6_16 : Cond.fieldLink RX6 16 "PaperStationsModel" "kept" "[I" ∈ ps_T := ps_in 554 (by decide +kernel) (by decide +kernel)
theorem lk_X6_110 : Cond.fieldLink RX6 110 "PaperStationsModel" "isKept" "Z" ∈ ps_T := ps_in 555 (by decide +kernel) (by decide +kernel)
theorem lk_X6_19 : Cond.fieldLink RX6 19 "PaperStationsModel" "trial" "[I" ∈ ps_T := ps_in 556 (by decide +kernel) (by decide +kernel)
theorem lk_X6_22 : Cond.fieldLink RX6 22 "PaperStationsModel" "text" "[I" ∈ ps_T := ps_in 557 (by decide +kernel) (by decide +kernel)
theorem lk_X6_98 : Cond.fieldLink RX6 98 "PaperStationsModel" "typed" "I" ∈ ps_T := ps_in 558 (by decide +kernel) (by decide +kernel)
theorem lk_X6_25 : Cond.fieldLink RX6 25 "PaperStationsModel" "numbers" "[I" ∈ ps_T := ps_in 559 (by decide +kernel) (by decide +kernel)
theorem lk_X6_101 : Cond.fieldLink RX6 101 "PaperStationsModel" "numberMany" "I" ∈ ps_T := ps_in 560 (by decide +kernel) (by decide +kernel)
theorem lk_L_17 : Cond.methodLink RL 17 yX6_addStation ∈ ps_T := ps_in 582 (by decide +kernel) (by decide +kernel)
theorem lk_X6_40 : Cond.methodLink RX6 40 yX6_records ∈ ps_T := ps_in 586 (by decide +kernel) (by decide +kernel)
theorem lk_X6_32 : Cond.methodLink RX6 32 yX6_copies ∈ ps_T := ps_in 590 (by decide +kernel) (by decide +kernel)
theorem lk_X6_43 : Cond.methodLink RX6 43 yX6_adds ∈ ps_T := ps_in 593 (by decide +kernel) (by decide +kernel)
theorem lk_L_22 : Cond.methodLink RL 22 yX6_addClerk ∈ ps_T := ps_in 597 (by decide +kernel) (by decide +kernel)
theorem lk_X6_36 : Cond.methodLink RX6 36 yX6_in ∈ ps_T := ps_in 601 (by decide +kernel) (by decide +kernel)
theorem lk_X6_47 : Cond.methodLink RX6 47 yX6_laysClerk ∈ ps_T := ps_in 604 (by decide +kernel) (by decide +kernel)
theorem lk_L_27 : Cond.methodLink RL 27 yX6_setArrivals ∈ ps_T := ps_in 608 (by decide +kernel) (by decide +kernel)
theorem lk_X6_50 : Cond.methodLink RX6 50 yX6_isStation ∈ ps_T := ps_in 612 (by decide +kernel) (by decide +kernel)
theorem lk_X6_54 : Cond.methodLink RX6 54 yX6_of ∈ ps_T := ps_in 616 (by decide +kernel) (by decide +kernel)
theorem lk_L_31 : Cond.methodLink RL 31 yX6_assign ∈ ps_T := ps_in 620 (by decide +kernel) (by decide +kernel)
theorem lk_X6_68 : Cond.methodLink RX6 68 yX6_isClerk ∈ ps_T := ps_in 624 (by decide +kernel) (by decide +kernel)
theorem lk_X6_61 : Cond.methodLink RX6 61 yX6_isFree ∈ ps_T := ps_in 628 (by decide +kernel) (by decide +kernel)
theorem lk_X6_58 : Cond.methodLink RX6 58 yX6_ofClerk ∈ ps_T := ps_in 632 (by decide +kernel) (by decide +kernel)
theorem lk_X6_71 : Cond.methodLink RX6 71 yX6_onDutyAt ∈ ps_T := ps_in 636 (by decide +kernel) (by decide +kernel)
theorem lk_L_36 : Cond.methodLink RL 36 yX6_relieve ∈ ps_T := ps_in 640 (by decide +kernel) (by decide +kernel)
theorem lk_X6_74 : Cond.methodLink RX6 74 yX6_leaves ∈ ps_T := ps_in 644 (by decide +kernel) (by decide +kernel)
theorem lk_L_40 : Cond.methodLink RL 40 yX6_pass ∈ ps_T := ps_in 648 (by decide +kernel) (by decide +kernel)
theorem lk_X6_94 : Cond.methodLink RX6 94 yX6_hoursPass ∈ ps_T := ps_in 652 (by decide +kernel) (by decide +kernel)
theorem lk_X6_90 : Cond.methodLink RX6 90 yX6_hourPasses ∈ ps_T := ps_in 656 (by decide +kernel) (by decide +kernel)
theorem lk_X6_84 : Cond.methodLink RX6 84 yX6_takesTurns ∈ ps_T := ps_in 660 (by decide +kernel) (by decide +kernel)
theorem lk_X6_81 : Cond.methodLink RX6 81 yX6_freeAt ∈ ps_T := ps_in 664 (by decide +kernel) (by decide +kernel)
theorem lk_X6_64 : Cond.methodLink RX6 64 yX6_aheadOf ∈ ps_T := ps_in 668 (by decide +kernel) (by decide +kernel)
theorem lk_X6_87 : Cond.methodLink RX6 87 yX6_serves ∈ ps_T := ps_in 672 (by decide +kernel) (by decide +kernel)
theorem lk_X6_78 : Cond.methodLink RX6 78 yX6_serveAt ∈ ps_T := ps_in 676 (by decide +kernel) (by decide +kernel)
theorem lk_L_44 : Cond.methodLink RL 44 yX6_supply ∈ ps_T := ps_in 680 (by decide +kernel) (by decide +kernel)
theorem lk_L_48 : Cond.methodLink RL 48 yX6_movePapers ∈ ps_T := ps_in 684 (by decide +kernel) (by decide +kernel)
theorem lk_L_52 : Cond.methodLink RL 52 yX6_spoil ∈ ps_T := ps_in 688 (by decide +kernel) (by decide +kernel)
theorem lk_L_56 : Cond.methodLink RL 56 yX6_carryOff ∈ ps_T := ps_in 692 (by decide +kernel) (by decide +kernel)
theorem lk_L_60 : Cond.methodLink RL 60 yX6_find ∈ ps_T := ps_in 696 (by decide +kernel) (by decide +kernel)
theorem lk_L_64 : Cond.methodLink RL 64 yX6_countBox ∈ ps_T := ps_in 700 (by decide +kernel) (by decide +kernel)
theorem lk_X6_97 : Cond.constant RX6 97 (99999) ∈ ps_T := ps_in 704 (by decide +kernel) (by decide +kernel)
theorem lk_L_69 : Cond.methodLink RL 69 yX6_type ∈ ps_T := ps_in 705 (by decide +kernel) (by decide +kernel)
theorem lk_L_73 : Cond.methodLink RL 73 yX6_clearText ∈ ps_T := ps_in 709 (by decide +kernel) (by decide +kernel)
theorem lk_L_77 : Cond.methodLink RL 77 yX6_readArrivals ∈ ps_T := ps_in 713 (by decide +kernel) (by decide +kernel)
theorem lk_X6_107 : Cond.methodLink RX6 107 yX6_faultOf ∈ ps_T := ps_in 717 (by decide +kernel) (by decide +kernel)
theorem lk_X6_104 : Cond.methodLink RX6 104 yX6_signAt ∈ ps_T := ps_in 721 (by decide +kernel) (by decide +kernel)
theorem lk_L_81 : Cond.methodLink RL 81 yX6_undo ∈ ps_T := ps_in 725 (by decide +kernel) (by decide +kernel)
theorem lk_L_85 : Cond.methodLink RL 85 yX6_keep ∈ ps_T := ps_in 729 (by decide +kernel) (by decide +kernel)
theorem lk_L_89 : Cond.methodLink RL 89 yX6_restore ∈ ps_T := ps_in 733 (by decide +kernel) (by decide +kernel)
theorem lk_L_93 : Cond.methodLink RL 93 yX6_station ∈ ps_T := ps_in 737 (by decide +kernel) (by decide +kernel)
theorem lk_X6_114 : Cond.methodLink RX6 114 yX6_arrivalsAll ∈ ps_T := ps_in 741 (by decide +kernel) (by decide +kernel)
theorem lk_X6_117 : Cond.methodLink RX6 117 yX6_toServe ∈ ps_T := ps_in 745 (by decide +kernel) (by decide +kernel)
theorem lk_L_97 : Cond.methodLink RL 97 yX6_papers ∈ ps_T := ps_in 749 (by decide +kernel) (by decide +kernel)
theorem lk_X6_120 : Cond.constant RX6 120 (100000) ∈ ps_T := ps_in 753 (by decide +kernel) (by decide +kernel)
theorem lk_L_101 : Cond.methodLink RL 101 yX6_clerk ∈ ps_T := ps_in 754 (by decide +kernel) (by decide +kernel)
theorem lk_L_105 : Cond.methodLink RL 105 yX6_arrivals ∈ ps_T := ps_in 758 (by decide +kernel) (by decide +kernel)
theorem lk_L_109 : Cond.methodLink RL 109 yX6_free ∈ ps_T := ps_in 762 (by decide +kernel) (by decide +kernel)
theorem lk_L_113 : Cond.methodLink RL 113 yX6_busiest ∈ ps_T := ps_in 766 (by decide +kernel) (by decide +kernel)
theorem lk_L_117 : Cond.methodLink RL 117 yX6_queueIn ∈ ps_T := ps_in 770 (by decide +kernel) (by decide +kernel)
theorem lk_L_121 : Cond.methodLink RL 121 yX6_lacks ∈ ps_T := ps_in 774 (by decide +kernel) (by decide +kernel)
theorem lk_X6_121 : Cond.constant RX6 121 (1000000) ∈ ps_T := ps_in 778 (by decide +kernel) (by decide +kernel)
theorem lk_L_125 : Cond.methodLink RL 125 yX6_count ∈ ps_T := ps_in 779 (by decide +kernel) (by decide +kernel)
theorem lk_X6_122 : Cond.methodLink RX6 122 yX6_overClerks ∈ ps_T := ps_in 783 (by decide +kernel) (by decide +kernel)
theorem lk_X6_125 : Cond.methodLink RX6 125 yX6_overStations ∈ ps_T := ps_in 787 (by decide +kernel) (by decide +kernel)
theorem lk_X6_128 : Cond.methodLink RX6 128 yX6_countedAs ∈ ps_T := ps_in 791 (by decide +kernel) (by decide +kernel)
theorem yw_X0_init : Cond.instanceMethod yX0_init ∈ ps_T ∧ Cond.initialized RX0 ∈ ps_T ∧ Cond.code yX0_init cX0_init 1 none ∈ ps_T := ⟨ps_in 198 (by decide +kernel) (by decide +kernel), ps_in 39 (by decide +kernel) (by decide +kernel), ps_in 199 (by decide +kernel) (by decide +kernel)⟩
theorem yw_X0_fault : Cond.instanceMethod yX0_fault ∈ ps_T ∧ Cond.selects RX0 yX0_fault yX0_fault ∈ ps_T ∧ Cond.initialized RX0 ∈ ps_T ∧ Cond.code yX0_fault cX0_fault 5 (some .int) ∈ ps_T := ⟨ps_in 422 (by decide +kernel) (by decide +kernel), ps_in 423 (by decide +kernel) (by decide +kernel), ps_in 39 (by decide +kernel) (by decide +kernel), ps_in 424 (by decide +kernel) (by decide +kernel)⟩
theorem yw_X0_readNumbers : Cond.instanceMethod yX0_readNumbers ∈ ps_T ∧ Cond.selects RX0 yX0_readNumbers yX0_readNumbers ∈ ps_T ∧ Cond.initialized RX0 ∈ ps_T ∧ Cond.code yX0_readNumbers cX0_readNumbers 3 (some .int) ∈ ps_T := ⟨ps_in 429 (by decide +kernel) (by decide +kernel), ps_in 430 (by decide +kernel) (by decide +kernel), ps_in 39 (by decide +kernel) (by decide +kernel), ps_in 431 (by decide +kernel) (by decide +kernel)⟩
theorem yw_X0_greatestNumber : Cond.instanceMethod yX0_greatestNumber ∈ ps_T ∧ Cond.selects RX0 yX0_greatestNumber yX0_greatestNumber ∈ ps_T ∧ Cond.initialized RX0 ∈ ps_T ∧ Cond.code yX0_greatestNumber cX0_greatestNumber 4 (some .int) ∈ ps_T := ⟨ps_in 433 (by decide +kernel) (by decide +kernel), ps_in 434 (by decide +kernel) (by decide +kernel), ps_in 39 (by decide +kernel) (by decide +kernel), ps_in 435 (by decide +kernel) (by decide +kernel)⟩
theorem yw_X0_isDigit : Cond.static yX0_isDigit ∈ ps_T ∧ Cond.initialized RX0 ∈ ps_T ∧ Cond.code yX0_isDigit cX0_isDigit 1 (some .boolean) ∈ ps_T := ⟨ps_in 426 (by decide +kernel) (by decide +kernel), ps_in 39 (by decide +kernel) (by decide +kernel), ps_in 427 (by decide +kernel) (by decide +kernel)⟩
theorem yw_X1_init : Cond.instanceMethod yX1_init ∈ ps_T ∧ Cond.initialized RX1 ∈ ps_T ∧ Cond.code yX1_init cX1_init 1 none ∈ ps_T := ⟨ps_in 124 (by decide +kernel) (by decide +kernel), ps_in 37 (by decide +kernel) (by decide +kernel), ps_in 125 (by decide +kernel) (by decide +kernel)⟩
theorem yw_X1_copyFrom : Cond.instanceMethod yX1_copyFrom ∈ ps_T ∧ Cond.selects RX1 yX1_copyFrom yX1_copyFrom ∈ ps_T ∧ Cond.initialized RX1 ∈ ps_T ∧ Cond.code yX1_copyFrom cX1_copyFrom 2 none ∈ ps_T := ⟨ps_in 261 (by decide +kernel) (by decide +kernel), ps_in 262 (by decide +kernel) (by decide +kernel), ps_in 37 (by decide +kernel) (by decide +kernel), ps_in 263 (by decide +kernel) (by decide +kernel)⟩
theorem yw_X1_isOnDuty : Cond.instanceMethod yX1_isOnDuty ∈ ps_T ∧ Cond.selects RX1 yX1_isOnDuty yX1_isOnDuty ∈ ps_T ∧ Cond.initialized RX1 ∈ ps_T ∧ Cond.code yX1_isOnDuty cX1_isOnDuty 1 (some .boolean) ∈ ps_T := ⟨ps_in 300 (by decide +kernel) (by decide +kernel), ps_in 301 (by decide +kernel) (by decide +kernel), ps_in 37 (by decide +kernel) (by decide +kernel), ps_in 302 (by decide +kernel) (by decide +kernel)⟩
theorem yw_X1_rests : Cond.instanceMethod yX1_rests ∈ ps_T ∧ Cond.selects RX1 yX1_rests yX1_rests ∈ ps_T ∧ Cond.initialized RX1 ∈ ps_T ∧ Cond.code yX1_rests cX1_rests 1 (some .boolean) ∈ ps_T := ⟨ps_in 304 (by decide +kernel) (by decide +kernel), ps_in 305 (by decide +kernel) (by decide +kernel), ps_in 37 (by decide +kernel) (by decide +kernel), ps_in 306 (by decide +kernel) (by decide +kernel)⟩
theorem yw_X1_isFree : Cond.instanceMethod yX1_isFree ∈ ps_T ∧ Cond.selects RX1 yX1_isFree yX1_isFree ∈ ps_T ∧ Cond.initialized RX1 ∈ ps_T ∧ Cond.code yX1_isFree cX1_isFree 1 (some .boolean) ∈ ps_T := ⟨ps_in 296 (by decide +kernel) (by decide +kernel), ps_in 297 (by decide +kernel) (by decide +kernel), ps_in 37 (by decide +kernel) (by decide +kernel), ps_in 298 (by decide +kernel) (by decide +kernel)⟩
theorem yw_X1_mustLeave : Cond.instanceMethod yX1_mustLeave ∈ ps_T ∧ Cond.selects RX1 yX1_mustLeave yX1_mustLeave ∈ ps_T ∧ Cond.initialized RX1 ∈ ps_T ∧ Cond.code yX1_mustLeave cX1_mustLeave 1 (some .boolean) ∈ ps_T := ⟨ps_in 341 (by decide +kernel) (by decide +kernel), ps_in 342 (by decide +kernel) (by decide +kernel), ps_in 37 (by decide +kernel) (by decide +kernel), ps_in 343 (by decide +kernel) (by decide +kernel)⟩
theorem yw_X1_comeTo : Cond.instanceMethod yX1_comeTo ∈ ps_T ∧ Cond.selects RX1 yX1_comeTo yX1_comeTo ∈ ps_T ∧ Cond.initialized RX1 ∈ ps_T ∧ Cond.code yX1_comeTo cX1_comeTo 2 none ∈ ps_T := ⟨ps_in 308 (by decide +kernel) (by decide +kernel), ps_in 309 (by decide +kernel) (by decide +kernel), ps_in 37 (by decide +kernel) (by decide +kernel), ps_in 310 (by decide +kernel) (by decide +kernel)⟩
theorem yw_X1_leaveDuty : Cond.instanceMethod yX1_leaveDuty ∈ ps_T ∧ Cond.selects RX1 yX1_leaveDuty yX1_leaveDuty ∈ ps_T ∧ Cond.initialized RX1 ∈ ps_T ∧ Cond.code yX1_leaveDuty cX1_leaveDuty 2 none ∈ ps_T := ⟨ps_in 321 (by decide +kernel) (by decide +kernel), ps_in 322 (by decide +kernel) (by decide +kernel), ps_in 37 (by decide +kernel) (by decide +kernel), ps_in 323 (by decide +kernel) (by decide +kernel)⟩
theorem yw_X1_endHour : Cond.instanceMethod yX1_endHour ∈ ps_T ∧ Cond.selects RX1 yX1_endHour yX1_endHour ∈ ps_T ∧ Cond.initialized RX1 ∈ ps_T ∧ Cond.code yX1_endHour cX1_endHour 1 none ∈ ps_T := ⟨ps_in 378 (by decide +kernel) (by decide +kernel), ps_in 379 (by decide +kernel) (by decide +kernel), ps_in 37 (by decide +kernel) (by decide +kernel), ps_in 380 (by decide +kernel) (by decide +kernel)⟩
theorem yw_X2_init : Cond.instanceMethod yX2_init ∈ ps_T ∧ Cond.initialized RX2 ∈ ps_T ∧ Cond.code yX2_init cX2_init 2 none ∈ ps_T := ⟨ps_in 54 (by decide +kernel) (by decide +kernel), ps_in 35 (by decide +kernel) (by decide +kernel), ps_in 55 (by decide +kernel) (by decide +kernel)⟩
theorem yw_X2_copyFrom : Cond.instanceMethod yX2_copyFrom ∈ ps_T ∧ Cond.selects RX2 yX2_copyFrom yX2_copyFrom ∈ ps_T ∧ Cond.initialized RX2 ∈ ps_T ∧ Cond.code yX2_copyFrom cX2_copyFrom 3 none ∈ ps_T := ⟨ps_in 250 (by decide +kernel) (by decide +kernel), ps_in 251 (by decide +kernel) (by decide +kernel), ps_in 35 (by decide +kernel) (by decide +kernel), ps_in 252 (by decide +kernel) (by decide +kernel)⟩
theorem yw_X2_hasStation : Cond.instanceMethod yX2_hasStation ∈ ps_T ∧ Cond.selects RX2 yX2_hasStation yX2_hasStation ∈ ps_T ∧ Cond.initialized RX2 ∈ ps_T ∧ Cond.code yX2_hasStation cX2_hasStation 2 (some .boolean) ∈ ps_T := ⟨ps_in 280 (by decide +kernel) (by decide +kernel), ps_in 281 (by decide +kernel) (by decide +kernel), ps_in 35 (by decide +kernel) (by decide +kernel), ps_in 282 (by decide +kernel) (by decide +kernel)⟩
theorem yw_X2_hasClerk : Cond.instanceMethod yX2_hasClerk ∈ ps_T ∧ Cond.selects RX2 yX2_hasClerk yX2_hasClerk ∈ ps_T ∧ Cond.initialized RX2 ∈ ps_T ∧ Cond.code yX2_hasClerk cX2_hasClerk 2 (some .boolean) ∈ ps_T := ⟨ps_in 292 (by decide +kernel) (by decide +kernel), ps_in 293 (by decide +kernel) (by decide +kernel), ps_in 35 (by decide +kernel) (by decide +kernel), ps_in 294 (by decide +kernel) (by decide +kernel)⟩
theorem yw_X2_engageClerk : Cond.instanceMethod yX2_engageClerk ∈ ps_T ∧ Cond.selects RX2 yX2_engageClerk yX2_engageClerk ∈ ps_T ∧ Cond.initialized RX2 ∈ ps_T ∧ Cond.code yX2_engageClerk cX2_engageClerk 3 (some .int) ∈ ps_T := ⟨ps_in 272 (by decide +kernel) (by decide +kernel), ps_in 273 (by decide +kernel) (by decide +kernel), ps_in 35 (by decide +kernel) (by decide +kernel), ps_in 274 (by decide +kernel) (by decide +kernel)⟩
theorem yw_X2_letHoursPass : Cond.instanceMethod yX2_letHoursPass ∈ ps_T ∧ Cond.selects RX2 yX2_letHoursPass yX2_letHoursPass ∈ ps_T ∧ Cond.initialized RX2 ∈ ps_T ∧ Cond.code yX2_letHoursPass cX2_letHoursPass 4 (some .int) ∈ ps_T := ⟨ps_in 329 (by decide +kernel) (by decide +kernel), ps_in 330 (by decide +kernel) (by decide +kernel), ps_in 35 (by decide +kernel) (by decide +kernel), ps_in 331 (by decide +kernel) (by decide +kernel)⟩
theorem yw_X2_letArrive : Cond.instanceMethod yX2_letArrive ∈ ps_T ∧ Cond.selects RX2 yX2_letArrive yX2_letArrive ∈ ps_T ∧ Cond.initialized RX2 ∈ ps_T ∧ Cond.code yX2_letArrive cX2_letArrive 2 none ∈ ps_T := ⟨ps_in 334 (by decide +kernel) (by decide +kernel), ps_in 2 (by decide +kernel) (by decide +kernel), ps_in 35 (by decide +kernel) (by decide +kernel), ps_in 335 (by decide +kernel) (by decide +kernel)⟩
theorem yw_X2_changeClerks : Cond.instanceMethod yX2_changeClerks ∈ ps_T ∧ Cond.selects RX2 yX2_changeClerks yX2_changeClerks ∈ ps_T ∧ Cond.initialized RX2 ∈ ps_T ∧ Cond.code yX2_changeClerks cX2_changeClerks 4 none ∈ ps_T := ⟨ps_in 338 (by decide +kernel) (by decide +kernel), ps_in 3 (by decide +kernel) (by decide +kernel), ps_in 35 (by decide +kernel) (by decide +kernel), ps_in 339 (by decide +kernel) (by decide +kernel)⟩
theorem yw_X2_serveQueues : Cond.instanceMethod yX2_serveQueues ∈ ps_T ∧ Cond.selects RX2 yX2_serveQueues yX2_serveQueues ∈ ps_T ∧ Cond.initialized RX2 ∈ ps_T ∧ Cond.code yX2_serveQueues cX2_serveQueues 3 (some .int) ∈ ps_T := ⟨ps_in 357 (by decide +kernel) (by decide +kernel), ps_in 6 (by decide +kernel) (by decide +kernel), ps_in 35 (by decide +kernel) (by decide +kernel), ps_in 358 (by decide +kernel) (by decide +kernel)⟩
theorem yw_X2_endHourOfClerks : Cond.instanceMethod yX2_endHourOfClerks ∈ ps_T ∧ Cond.selects RX2 yX2_endHourOfClerks yX2_endHourOfClerks ∈ ps_T ∧ Cond.initialized RX2 ∈ ps_T ∧ Cond.code yX2_endHourOfClerks cX2_endHourOfClerks 2 none ∈ ps_T := ⟨ps_in 375 (by decide +kernel) (by decide +kernel), ps_in 7 (by decide +kernel) (by decide +kernel), ps_in 35 (by decide +kernel) (by decide +kernel), ps_in 376 (by decide +kernel) (by decide +kernel)⟩
theorem yw_X2_firstFree : Cond.instanceMethod yX2_firstFree ∈ ps_T ∧ Cond.selects RX2 yX2_firstFree yX2_firstFree ∈ ps_T ∧ Cond.initialized RX2 ∈ ps_T ∧ Cond.code yX2_firstFree cX2_firstFree 3 (some .int) ∈ ps_T := ⟨ps_in 347 (by decide +kernel) (by decide +kernel), ps_in 4 (by decide +kernel) (by decide +kernel), ps_in 35 (by decide +kernel) (by decide +kernel), ps_in 348 (by decide +kernel) (by decide +kernel)⟩
theorem yw_X2_comesBefore : Cond.instanceMethod yX2_comesBefore ∈ ps_T ∧ Cond.selects RX2 yX2_comesBefore yX2_comesBefore ∈ ps_T ∧ Cond.initialized RX2 ∈ ps_T ∧ Cond.code yX2_comesBefore cX2_comesBefore 4 (some .boolean) ∈ ps_T := ⟨ps_in 352 (by decide +kernel) (by decide +kernel), ps_in 5 (by decide +kernel) (by decide +kernel), ps_in 35 (by decide +kernel) (by decide +kernel), ps_in 353 (by decide +kernel) (by decide +kernel)⟩
theorem yw_X2_placeAmongFree : Cond.instanceMethod yX2_placeAmongFree ∈ ps_T ∧ Cond.selects RX2 yX2_placeAmongFree yX2_placeAmongFree ∈ ps_T ∧ Cond.initialized RX2 ∈ ps_T ∧ Cond.code yX2_placeAmongFree cX2_placeAmongFree 4 (some .int) ∈ ps_T := ⟨ps_in 483 (by decide +kernel) (by decide +kernel), ps_in 484 (by decide +kernel) (by decide +kernel), ps_in 35 (by decide +kernel) (by decide +kernel), ps_in 485 (by decide +kernel) (by decide +kernel)⟩
theorem yw_X2_placeByQueue : Cond.instanceMethod yX2_placeByQueue ∈ ps_T ∧ Cond.selects RX2 yX2_placeByQueue yX2_placeByQueue ∈ ps_T ∧ Cond.initialized RX2 ∈ ps_T ∧ Cond.code yX2_placeByQueue cX2_placeByQueue 5 (some .int) ∈ ps_T := ⟨ps_in 499 (by decide +kernel) (by decide +kernel), ps_in 500 (by decide +kernel) (by decide +kernel), ps_in 35 (by decide +kernel) (by decide +kernel), ps_in 501 (by decide +kernel) (by decide +kernel)⟩
theorem yw_X2_clerksAt : Cond.instanceMethod yX2_clerksAt ∈ ps_T ∧ Cond.selects RX2 yX2_clerksAt yX2_clerksAt ∈ ps_T ∧ Cond.initialized RX2 ∈ ps_T ∧ Cond.code yX2_clerksAt cX2_clerksAt 4 (some .int) ∈ ps_T := ⟨ps_in 312 (by decide +kernel) (by decide +kernel), ps_in 313 (by decide +kernel) (by decide +kernel), ps_in 35 (by decide +kernel) (by decide +kernel), ps_in 314 (by decide +kernel) (by decide +kernel)⟩
theorem yw_X2_servedAnHourAt : Cond.instanceMethod yX2_servedAnHourAt ∈ ps_T ∧ Cond.selects RX2 yX2_servedAnHourAt yX2_servedAnHourAt ∈ ps_T ∧ Cond.initialized RX2 ∈ ps_T ∧ Cond.code yX2_servedAnHourAt cX2_servedAnHourAt 4 (some .int) ∈ ps_T := ⟨ps_in 360 (by decide +kernel) (by decide +kernel), ps_in 361 (by decide +kernel) (by decide +kernel), ps_in 35 (by decide +kernel) (by decide +kernel), ps_in 362 (by decide +kernel) (by decide +kernel)⟩
theorem yw_X2_hoursForQueueOf : Cond.instanceMethod yX2_hoursForQueueOf ∈ ps_T ∧ Cond.selects RX2 yX2_hoursForQueueOf yX2_hoursForQueueOf ∈ ps_T ∧ Cond.initialized RX2 ∈ ps_T ∧ Cond.code yX2_hoursForQueueOf cX2_hoursForQueueOf 4 (some .int) ∈ ps_T := ⟨ps_in 465 (by decide +kernel) (by decide +kernel), ps_in 466 (by decide +kernel) (by decide +kernel), ps_in 35 (by decide +kernel) (by decide +kernel), ps_in 467 (by decide +kernel) (by decide +kernel)⟩
theorem yw_X2_clerksOnDuty : Cond.instanceMethod yX2_clerksOnDuty ∈ ps_T ∧ Cond.selects RX2 yX2_clerksOnDuty yX2_clerksOnDuty ∈ ps_T ∧ Cond.initialized RX2 ∈ ps_T ∧ Cond.code yX2_clerksOnDuty cX2_clerksOnDuty 3 (some .int) ∈ ps_T := ⟨ps_in 516 (by decide +kernel) (by decide +kernel), ps_in 517 (by decide +kernel) (by decide +kernel), ps_in 35 (by decide +kernel) (by decide +kernel), ps_in 518 (by decide +kernel) (by decide +kernel)⟩
theorem yw_X2_freeClerks : Cond.instanceMethod yX2_freeClerks ∈ ps_T ∧ Cond.selects RX2 yX2_freeClerks yX2_freeClerks ∈ ps_T ∧ Cond.initialized RX2 ∈ ps_T ∧ Cond.code yX2_freeClerks cX2_freeClerks 3 (some .int) ∈ ps_T := ⟨ps_in 521 (by decide +kernel) (by decide +kernel), ps_in 522 (by decide +kernel) (by decide +kernel), ps_in 35 (by decide +kernel) (by decide +kernel), ps_in 523 (by decide +kernel) (by decide +kernel)⟩
theorem yw_X2_hoursWorked : Cond.instanceMethod yX2_hoursWorked ∈ ps_T ∧ Cond.selects RX2 yX2_hoursWorked yX2_hoursWorked ∈ ps_T ∧ Cond.initialized RX2 ∈ ps_T ∧ Cond.code yX2_hoursWorked cX2_hoursWorked 3 (some .int) ∈ ps_T := ⟨ps_in 542 (by decide +kernel) (by decide +kernel), ps_in 543 (by decide +kernel) (by decide +kernel), ps_in 35 (by decide +kernel) (by decide +kernel), ps_in 544 (by decide +kernel) (by decide +kernel)⟩
theorem yw_X2_stationsCounted : Cond.instanceMethod yX2_stationsCounted ∈ ps_T ∧ Cond.selects RX2 yX2_stationsCounted yX2_stationsCounted ∈ ps_T ∧ Cond.initialized RX2 ∈ ps_T ∧ Cond.code yX2_stationsCounted cX2_stationsCounted 4 (some .int) ∈ ps_T := ⟨ps_in 533 (by decide +kernel) (by decide +kernel), ps_in 534 (by decide +kernel) (by decide +kernel), ps_in 35 (by decide +kernel) (by decide +kernel), ps_in 535 (by decide +kernel) (by decide +kernel)⟩
theorem yw_X3_init : Cond.instanceMethod yX3_init ∈ ps_T ∧ Cond.initialized RX3 ∈ ps_T ∧ Cond.code yX3_init cX3_init 2 none ∈ ps_T := ⟨ps_in 181 (by decide +kernel) (by decide +kernel), ps_in 38 (by decide +kernel) (by decide +kernel), ps_in 182 (by decide +kernel) (by decide +kernel)⟩
theorem yw_X3_remember : Cond.instanceMethod yX3_remember ∈ ps_T ∧ Cond.selects RX3 yX3_remember yX3_remember ∈ ps_T ∧ Cond.initialized RX3 ∈ ps_T ∧ Cond.code yX3_remember cX3_remember 2 none ∈ ps_T := ⟨ps_in 242 (by decide +kernel) (by decide +kernel), ps_in 243 (by decide +kernel) (by decide +kernel), ps_in 38 (by decide +kernel) (by decide +kernel), ps_in 244 (by decide +kernel) (by decide +kernel)⟩
theorem yw_X3_dropOldest : Cond.instanceMethod yX3_dropOldest ∈ ps_T ∧ Cond.selects RX3 yX3_dropOldest yX3_dropOldest ∈ ps_T ∧ Cond.initialized RX3 ∈ ps_T ∧ Cond.code yX3_dropOldest cX3_dropOldest 3 none ∈ ps_T := ⟨ps_in 247 (by decide +kernel) (by decide +kernel), ps_in 0 (by decide +kernel) (by decide +kernel), ps_in 38 (by decide +kernel) (by decide +kernel), ps_in 248 (by decide +kernel) (by decide +kernel)⟩
theorem yw_X3_takeBackInto : Cond.instanceMethod yX3_takeBackInto ∈ ps_T ∧ Cond.selects RX3 yX3_takeBackInto yX3_takeBackInto ∈ ps_T ∧ Cond.initialized RX3 ∈ ps_T ∧ Cond.code yX3_takeBackInto cX3_takeBackInto 2 none ∈ ps_T := ⟨ps_in 443 (by decide +kernel) (by decide +kernel), ps_in 444 (by decide +kernel) (by decide +kernel), ps_in 38 (by decide +kernel) (by decide +kernel), ps_in 445 (by decide +kernel) (by decide +kernel)⟩
theorem yw_X4_init : Cond.instanceMethod yX4_init ∈ ps_T ∧ Cond.initialized RX4 ∈ ps_T ∧ Cond.code yX4_init cX4_init 1 none ∈ ps_T := ⟨ps_in 61 (by decide +kernel) (by decide +kernel), ps_in 36 (by decide +kernel) (by decide +kernel), ps_in 62 (by decide +kernel) (by decide +kernel)⟩
theorem yw_X4_copyFrom : Cond.instanceMethod yX4_copyFrom ∈ ps_T ∧ Cond.selects RX4 yX4_copyFrom yX4_copyFrom ∈ ps_T ∧ Cond.initialized RX4 ∈ ps_T ∧ Cond.code yX4_copyFrom cX4_copyFrom 2 none ∈ ps_T := ⟨ps_in 254 (by decide +kernel) (by decide +kernel), ps_in 255 (by decide +kernel) (by decide +kernel), ps_in 36 (by decide +kernel) (by decide +kernel), ps_in 256 (by decide +kernel) (by decide +kernel)⟩
theorem yw_X4_becomeSumOf : Cond.instanceMethod yX4_becomeSumOf ∈ ps_T ∧ Cond.selects RX4 yX4_becomeSumOf yX4_becomeSumOf ∈ ps_T ∧ Cond.initialized RX4 ∈ ps_T ∧ Cond.code yX4_becomeSumOf cX4_becomeSumOf 4 none ∈ ps_T := ⟨ps_in 529 (by decide +kernel) (by decide +kernel), ps_in 530 (by decide +kernel) (by decide +kernel), ps_in 36 (by decide +kernel) (by decide +kernel), ps_in 531 (by decide +kernel) (by decide +kernel)⟩
theorem yw_X4_serveQueue : Cond.instanceMethod yX4_serveQueue ∈ ps_T ∧ Cond.selects RX4 yX4_serveQueue yX4_serveQueue ∈ ps_T ∧ Cond.initialized RX4 ∈ ps_T ∧ Cond.code yX4_serveQueue cX4_serveQueue 3 (some .int) ∈ ps_T := ⟨ps_in 364 (by decide +kernel) (by decide +kernel), ps_in 365 (by decide +kernel) (by decide +kernel), ps_in 36 (by decide +kernel) (by decide +kernel), ps_in 366 (by decide +kernel) (by decide +kernel)⟩
theorem yw_X4_allArrivals : Cond.instanceMethod yX4_allArrivals ∈ ps_T ∧ Cond.selects RX4 yX4_allArrivals yX4_allArrivals ∈ ps_T ∧ Cond.initialized RX4 ∈ ps_T ∧ Cond.code yX4_allArrivals cX4_allArrivals 3 (some .int) ∈ ps_T := ⟨ps_in 461 (by decide +kernel) (by decide +kernel), ps_in 462 (by decide +kernel) (by decide +kernel), ps_in 36 (by decide +kernel) (by decide +kernel), ps_in 463 (by decide +kernel) (by decide +kernel)⟩
theorem yw_X4_isCounted : Cond.instanceMethod yX4_isCounted ∈ ps_T ∧ Cond.selects RX4 yX4_isCounted yX4_isCounted ∈ ps_T ∧ Cond.initialized RX4 ∈ ps_T ∧ Cond.code yX4_isCounted cX4_isCounted 1 (some .boolean) ∈ ps_T := ⟨ps_in 473 (by decide +kernel) (by decide +kernel), ps_in 474 (by decide +kernel) (by decide +kernel), ps_in 36 (by decide +kernel) (by decide +kernel), ps_in 475 (by decide +kernel) (by decide +kernel)⟩
theorem yw_X4_countAgrees : Cond.instanceMethod yX4_countAgrees ∈ ps_T ∧ Cond.selects RX4 yX4_countAgrees yX4_countAgrees ∈ ps_T ∧ Cond.initialized RX4 ∈ ps_T ∧ Cond.code yX4_countAgrees cX4_countAgrees 1 (some .boolean) ∈ ps_T := ⟨ps_in 538 (by decide +kernel) (by decide +kernel), ps_in 539 (by decide +kernel) (by decide +kernel), ps_in 36 (by decide +kernel) (by decide +kernel), ps_in 540 (by decide +kernel) (by decide +kernel)⟩
theorem yw_X5_init : Cond.instanceMethod yX5_init ∈ ps_T ∧ Cond.initialized RX5 ∈ ps_T ∧ Cond.code yX5_init cX5_init 1 none ∈ ps_T := ⟨ps_in 46 (by decide +kernel) (by decide +kernel), ps_in 34 (by decide +kernel) (by decide +kernel), ps_in 47 (by decide +kernel) (by decide +kernel)⟩
theorem yw_X5_addStation : Cond.instanceMethod yX5_addStation ∈ ps_T ∧ Cond.selects RX5 yX5_addStation yX5_addStation ∈ ps_T ∧ Cond.initialized RX5 ∈ ps_T ∧ Cond.code yX5_addStation cX5_addStation 1 (some .int) ∈ ps_T := ⟨ps_in 238 (by decide +kernel) (by decide +kernel), ps_in 239 (by decide +kernel) (by decide +kernel), ps_in 34 (by decide +kernel) (by decide +kernel), ps_in 240 (by decide +kernel) (by decide +kernel)⟩
theorem yw_X5_addClerk : Cond.instanceMethod yX5_addClerk ∈ ps_T ∧ Cond.selects RX5 yX5_addClerk yX5_addClerk ∈ ps_T ∧ Cond.initialized RX5 ∈ ps_T ∧ Cond.code yX5_addClerk cX5_addClerk 3 (some .int) ∈ ps_T := ⟨ps_in 265 (by decide +kernel) (by decide +kernel), ps_in 266 (by decide +kernel) (by decide +kernel), ps_in 34 (by decide +kernel) (by decide +kernel), ps_in 267 (by decide +kernel) (by decide +kernel)⟩
theorem yw_X5_setArrivals : Cond.instanceMethod yX5_setArrivals ∈ ps_T ∧ Cond.selects RX5 yX5_setArrivals yX5_setArrivals ∈ ps_T ∧ Cond.initialized RX5 ∈ ps_T ∧ Cond.code yX5_setArrivals cX5_setArrivals 6 (some .int) ∈ ps_T := ⟨ps_in 276 (by decide +kernel) (by decide +kernel), ps_in 277 (by decide +kernel) (by decide +kernel), ps_in 34 (by decide +kernel) (by decide +kernel), ps_in 278 (by decide +kernel) (by decide +kernel)⟩
theorem yw_X5_assign : Cond.instanceMethod yX5_assign ∈ ps_T ∧ Cond.selects RX5 yX5_assign yX5_assign ∈ ps_T ∧ Cond.initialized RX5 ∈ ps_T ∧ Cond.code yX5_assign cX5_assign 3 (some .int) ∈ ps_T := ⟨ps_in 288 (by decide +kernel) (by decide +kernel), ps_in 289 (by decide +kernel) (by decide +kernel), ps_in 34 (by decide +kernel) (by decide +kernel), ps_in 290 (by decide +kernel) (by decide +kernel)⟩
theorem yw_X5_relieve : Cond.instanceMethod yX5_relieve ∈ ps_T ∧ Cond.selects RX5 yX5_relieve yX5_relieve ∈ ps_T ∧ Cond.initialized RX5 ∈ ps_T ∧ Cond.code yX5_relieve cX5_relieve 3 (some .int) ∈ ps_T := ⟨ps_in 316 (by decide +kernel) (by decide +kernel), ps_in 317 (by decide +kernel) (by decide +kernel), ps_in 34 (by decide +kernel) (by decide +kernel), ps_in 318 (by decide +kernel) (by decide +kernel)⟩
theorem yw_X5_pass : Cond.instanceMethod yX5_pass ∈ ps_T ∧ Cond.selects RX5 yX5_pass yX5_pass ∈ ps_T ∧ Cond.initialized RX5 ∈ ps_T ∧ Cond.code yX5_pass cX5_pass 2 (some .int) ∈ ps_T := ⟨ps_in 325 (by decide +kernel) (by decide +kernel), ps_in 326 (by decide +kernel) (by decide +kernel), ps_in 34 (by decide +kernel) (by decide +kernel), ps_in 327 (by decide +kernel) (by decide +kernel)⟩
theorem yw_X5_supply : Cond.instanceMethod yX5_supply ∈ ps_T ∧ Cond.selects RX5 yX5_supply yX5_supply ∈ ps_T ∧ Cond.initialized RX5 ∈ ps_T ∧ Cond.code yX5_supply cX5_supply 4 (some .int) ∈ ps_T := ⟨ps_in 382 (by decide +kernel) (by decide +kernel), ps_in 383 (by decide +kernel) (by decide +kernel), ps_in 34 (by decide +kernel) (by decide +kernel), ps_in 384 (by decide +kernel) (by decide +kernel)⟩
theorem yw_X5_movePapers : Cond.instanceMethod yX5_movePapers ∈ ps_T ∧ Cond.selects RX5 yX5_movePapers yX5_movePapers ∈ ps_T ∧ Cond.initialized RX5 ∈ ps_T ∧ Cond.code yX5_movePapers cX5_movePapers 6 (some .int) ∈ ps_T := ⟨ps_in 389 (by decide +kernel) (by decide +kernel), ps_in 390 (by decide +kernel) (by decide +kernel), ps_in 34 (by decide +kernel) (by decide +kernel), ps_in 391 (by decide +kernel) (by decide +kernel)⟩
theorem yw_X5_spoil : Cond.instanceMethod yX5_spoil ∈ ps_T ∧ Cond.selects RX5 yX5_spoil yX5_spoil ∈ ps_T ∧ Cond.initialized RX5 ∈ ps_T ∧ Cond.code yX5_spoil cX5_spoil 4 (some .int) ∈ ps_T := ⟨ps_in 393 (by decide +kernel) (by decide +kernel), ps_in 394 (by decide +kernel) (by decide +kernel), ps_in 34 (by decide +kernel) (by decide +kernel), ps_in 395 (by decide +kernel) (by decide +kernel)⟩
theorem yw_X5_carryOff : Cond.instanceMethod yX5_carryOff ∈ ps_T ∧ Cond.selects RX5 yX5_carryOff yX5_carryOff ∈ ps_T ∧ Cond.initialized RX5 ∈ ps_T ∧ Cond.code yX5_carryOff cX5_carryOff 4 (some .int) ∈ ps_T := ⟨ps_in 397 (by decide +kernel) (by decide +kernel), ps_in 398 (by decide +kernel) (by decide +kernel), ps_in 34 (by decide +kernel) (by decide +kernel), ps_in 399 (by decide +kernel) (by decide +kernel)⟩
theorem yw_X5_find : Cond.instanceMethod yX5_find ∈ ps_T ∧ Cond.selects RX5 yX5_find yX5_find ∈ ps_T ∧ Cond.initialized RX5 ∈ ps_T ∧ Cond.code yX5_find cX5_find 4 (some .int) ∈ ps_T := ⟨ps_in 401 (by decide +kernel) (by decide +kernel), ps_in 402 (by decide +kernel) (by decide +kernel), ps_in 34 (by decide +kernel) (by decide +kernel), ps_in 403 (by decide +kernel) (by decide +kernel)⟩
theorem yw_X5_countBox : Cond.instanceMethod yX5_countBox ∈ ps_T ∧ Cond.selects RX5 yX5_countBox yX5_countBox ∈ ps_T ∧ Cond.initialized RX5 ∈ ps_T ∧ Cond.code yX5_countBox cX5_countBox 4 (some .int) ∈ ps_T := ⟨ps_in 405 (by decide +kernel) (by decide +kernel), ps_in 406 (by decide +kernel) (by decide +kernel), ps_in 34 (by decide +kernel) (by decide +kernel), ps_in 407 (by decide +kernel) (by decide +kernel)⟩
theorem yw_X5_type : Cond.instanceMethod yX5_type ∈ ps_T ∧ Cond.selects RX5 yX5_type yX5_type ∈ ps_T ∧ Cond.initialized RX5 ∈ ps_T ∧ Cond.code yX5_type cX5_type 2 (some .int) ∈ ps_T := ⟨ps_in 410 (by decide +kernel) (by decide +kernel), ps_in 411 (by decide +kernel) (by decide +kernel), ps_in 34 (by decide +kernel) (by decide +kernel), ps_in 412 (by decide +kernel) (by decide +kernel)⟩
theorem yw_X5_clearText : Cond.instanceMethod yX5_clearText ∈ ps_T ∧ Cond.selects RX5 yX5_clearText yX5_clearText ∈ ps_T ∧ Cond.initialized RX5 ∈ ps_T ∧ Cond.code yX5_clearText cX5_clearText 2 (some .int) ∈ ps_T := ⟨ps_in 414 (by decide +kernel) (by decide +kernel), ps_in 415 (by decide +kernel) (by decide +kernel), ps_in 34 (by decide +kernel) (by decide +kernel), ps_in 416 (by decide +kernel) (by decide +kernel)⟩
theorem yw_X5_readArrivals : Cond.instanceMethod yX5_readArrivals ∈ ps_T ∧ Cond.selects RX5 yX5_readArrivals yX5_readArrivals ∈ ps_T ∧ Cond.initialized RX5 ∈ ps_T ∧ Cond.code yX5_readArrivals cX5_readArrivals 5 (some .int) ∈ ps_T := ⟨ps_in 418 (by decide +kernel) (by decide +kernel), ps_in 419 (by decide +kernel) (by decide +kernel), ps_in 34 (by decide +kernel) (by decide +kernel), ps_in 420 (by decide +kernel) (by decide +kernel)⟩
theorem yw_X5_undo : Cond.instanceMethod yX5_undo ∈ ps_T ∧ Cond.selects RX5 yX5_undo yX5_undo ∈ ps_T ∧ Cond.initialized RX5 ∈ ps_T ∧ Cond.code yX5_undo cX5_undo 1 (some .int) ∈ ps_T := ⟨ps_in 439 (by decide +kernel) (by decide +kernel), ps_in 440 (by decide +kernel) (by decide +kernel), ps_in 34 (by decide +kernel) (by decide +kernel), ps_in 441 (by decide +kernel) (by decide +kernel)⟩
theorem yw_X5_keep : Cond.instanceMethod yX5_keep ∈ ps_T ∧ Cond.selects RX5 yX5_keep yX5_keep ∈ ps_T ∧ Cond.initialized RX5 ∈ ps_T ∧ Cond.code yX5_keep cX5_keep 1 (some .int) ∈ ps_T := ⟨ps_in 447 (by decide +kernel) (by decide +kernel), ps_in 448 (by decide +kernel) (by decide +kernel), ps_in 34 (by decide +kernel) (by decide +kernel), ps_in 449 (by decide +kernel) (by decide +kernel)⟩
theorem yw_X5_restore : Cond.instanceMethod yX5_restore ∈ ps_T ∧ Cond.selects RX5 yX5_restore yX5_restore ∈ ps_T ∧ Cond.initialized RX5 ∈ ps_T ∧ Cond.code yX5_restore cX5_restore 1 (some .int) ∈ ps_T := ⟨ps_in 452 (by decide +kernel) (by decide +kernel), ps_in 453 (by decide +kernel) (by decide +kernel), ps_in 34 (by decide +kernel) (by decide +kernel), ps_in 454 (by decide +kernel) (by decide +kernel)⟩
theorem yw_X5_station : Cond.instanceMethod yX5_station ∈ ps_T ∧ Cond.selects RX5 yX5_station yX5_station ∈ ps_T ∧ Cond.initialized RX5 ∈ ps_T ∧ Cond.code yX5_station cX5_station 4 (some .int) ∈ ps_T := ⟨ps_in 456 (by decide +kernel) (by decide +kernel), ps_in 457 (by decide +kernel) (by decide +kernel), ps_in 34 (by decide +kernel) (by decide +kernel), ps_in 458 (by decide +kernel) (by decide +kernel)⟩
theorem yw_X5_papers : Cond.instanceMethod yX5_papers ∈ ps_T ∧ Cond.selects RX5 yX5_papers yX5_papers ∈ ps_T ∧ Cond.initialized RX5 ∈ ps_T ∧ Cond.code yX5_papers cX5_papers 4 (some .int) ∈ ps_T := ⟨ps_in 469 (by decide +kernel) (by decide +kernel), ps_in 470 (by decide +kernel) (by decide +kernel), ps_in 34 (by decide +kernel) (by decide +kernel), ps_in 471 (by decide +kernel) (by decide +kernel)⟩
theorem yw_X5_clerk : Cond.instanceMethod yX5_clerk ∈ ps_T ∧ Cond.selects RX5 yX5_clerk yX5_clerk ∈ ps_T ∧ Cond.initialized RX5 ∈ ps_T ∧ Cond.code yX5_clerk cX5_clerk 4 (some .int) ∈ ps_T := ⟨ps_in 478 (by decide +kernel) (by decide +kernel), ps_in 479 (by decide +kernel) (by decide +kernel), ps_in 34 (by decide +kernel) (by decide +kernel), ps_in 480 (by decide +kernel) (by decide +kernel)⟩
theorem yw_X5_arrivals : Cond.instanceMethod yX5_arrivals ∈ ps_T ∧ Cond.selects RX5 yX5_arrivals yX5_arrivals ∈ ps_T ∧ Cond.initialized RX5 ∈ ps_T ∧ Cond.code yX5_arrivals cX5_arrivals 3 (some .int) ∈ ps_T := ⟨ps_in 487 (by decide +kernel) (by decide +kernel), ps_in 488 (by decide +kernel) (by decide +kernel), ps_in 34 (by decide +kernel) (by decide +kernel), ps_in 489 (by decide +kernel) (by decide +kernel)⟩
theorem yw_X5_free : Cond.instanceMethod yX5_free ∈ ps_T ∧ Cond.selects RX5 yX5_free yX5_free ∈ ps_T ∧ Cond.initialized RX5 ∈ ps_T ∧ Cond.code yX5_free cX5_free 3 (some .int) ∈ ps_T := ⟨ps_in 491 (by decide +kernel) (by decide +kernel), ps_in 492 (by decide +kernel) (by decide +kernel), ps_in 34 (by decide +kernel) (by decide +kernel), ps_in 493 (by decide +kernel) (by decide +kernel)⟩
theorem yw_X5_busiest : Cond.instanceMethod yX5_busiest ∈ ps_T ∧ Cond.selects RX5 yX5_busiest yX5_busiest ∈ ps_T ∧ Cond.initialized RX5 ∈ ps_T ∧ Cond.code yX5_busiest cX5_busiest 3 (some .int) ∈ ps_T := ⟨ps_in 495 (by decide +kernel) (by decide +kernel), ps_in 496 (by decide +kernel) (by decide +kernel), ps_in 34 (by decide +kernel) (by decide +kernel), ps_in 497 (by decide +kernel) (by decide +kernel)⟩
theorem yw_X5_queueIn : Cond.instanceMethod yX5_queueIn ∈ ps_T ∧ Cond.selects RX5 yX5_queueIn yX5_queueIn ∈ ps_T ∧ Cond.initialized RX5 ∈ ps_T ∧ Cond.code yX5_queueIn cX5_queueIn 3 (some .int) ∈ ps_T := ⟨ps_in 503 (by decide +kernel) (by decide +kernel), ps_in 504 (by decide +kernel) (by decide +kernel), ps_in 34 (by decide +kernel) (by decide +kernel), ps_in 505 (by decide +kernel) (by decide +kernel)⟩
theorem yw_X5_lacks : Cond.instanceMethod yX5_lacks ∈ ps_T ∧ Cond.selects RX5 yX5_lacks yX5_lacks ∈ ps_T ∧ Cond.initialized RX5 ∈ ps_T ∧ Cond.code yX5_lacks cX5_lacks 4 (some .int) ∈ ps_T := ⟨ps_in 507 (by decide +kernel) (by decide +kernel), ps_in 508 (by decide +kernel) (by decide +kernel), ps_in 34 (by decide +kernel) (by decide +kernel), ps_in 509 (by decide +kernel) (by decide +kernel)⟩
theorem yw_X5_count : Cond.instanceMethod yX5_count ∈ ps_T ∧ Cond.selects RX5 yX5_count yX5_count ∈ ps_T ∧ Cond.initialized RX5 ∈ ps_T ∧ Cond.code yX5_count cX5_count 2 (some .int) ∈ ps_T := ⟨ps_in 512 (by decide +kernel) (by decide +kernel), ps_in 513 (by decide +kernel) (by decide +kernel), ps_in 34 (by decide +kernel) (by decide +kernel), ps_in 514 (by decide +kernel) (by decide +kernel)⟩
theorem yw_X5_total : Cond.instanceMethod yX5_total ∈ ps_T ∧ Cond.selects RX5 yX5_total yX5_total ∈ ps_T ∧ Cond.initialized RX5 ∈ ps_T ∧ Cond.code yX5_total cX5_total 1 (some (.object "PaperStations$Station")) ∈ ps_T := ⟨ps_in 526 (by decide +kernel) (by decide +kernel), ps_in 8 (by decide +kernel) (by decide +kernel), ps_in 34 (by decide +kernel) (by decide +kernel), ps_in 527 (by decide +kernel) (by decide +kernel)⟩
theorem yw_X5_isHourToCome : Cond.instanceMethod yX5_isHourToCome ∈ ps_T ∧ Cond.selects RX5 yX5_isHourToCome yX5_isHourToCome ∈ ps_T ∧ Cond.initialized RX5 ∈ ps_T ∧ Cond.code yX5_isHourToCome cX5_isHourToCome 2 (some .boolean) ∈ ps_T := ⟨ps_in 285 (by decide +kernel) (by decide +kernel), ps_in 1 (by decide +kernel) (by decide +kernel), ps_in 34 (by decide +kernel) (by decide +kernel), ps_in 286 (by decide +kernel) (by decide +kernel)⟩
theorem yw_X5_isPaperNumber : Cond.static yX5_isPaperNumber ∈ ps_T ∧ Cond.initialized RX5 ∈ ps_T ∧ Cond.code yX5_isPaperNumber cX5_isPaperNumber 1 (some .boolean) ∈ ps_T := ⟨ps_in 386 (by decide +kernel) (by decide +kernel), ps_in 34 (by decide +kernel) (by decide +kernel), ps_in 387 (by decide +kernel) (by decide +kernel)⟩
theorem yw_X5_isWithin : Cond.static yX5_isWithin ∈ ps_T ∧ Cond.initialized RX5 ∈ ps_T ∧ Cond.code yX5_isWithin cX5_isWithin 3 (some .boolean) ∈ ps_T := ⟨ps_in 269 (by decide +kernel) (by decide +kernel), ps_in 34 (by decide +kernel) (by decide +kernel), ps_in 270 (by decide +kernel) (by decide +kernel)⟩
theorem yw_X6_init : Cond.instanceMethod yX6_init ∈ ps_T ∧ Cond.initialized RX6 ∈ ps_T ∧ Cond.code yX6_init cX6_init 1 none ∈ ps_T := ⟨ps_in 548 (by decide +kernel) (by decide +kernel), ps_in 40 (by decide +kernel) (by decide +kernel), ps_in 549 (by decide +kernel) (by decide +kernel)⟩
theorem yw_X6_in : Cond.static yX6_in ∈ ps_T ∧ Cond.initialized RX6 ∈ ps_T ∧ Cond.code yX6_in cX6_in 3 (some .boolean) ∈ ps_T := ⟨ps_in 602 (by decide +kernel) (by decide +kernel), ps_in 40 (by decide +kernel) (by decide +kernel), ps_in 603 (by decide +kernel) (by decide +kernel)⟩
theorem yw_X6_copies : Cond.static yX6_copies ∈ ps_T ∧ Cond.initialized RX6 ∈ ps_T ∧ Cond.code yX6_copies cX6_copies 5 none ∈ ps_T := ⟨ps_in 591 (by decide +kernel) (by decide +kernel), ps_in 40 (by decide +kernel) (by decide +kernel), ps_in 592 (by decide +kernel) (by decide +kernel)⟩
theorem yw_X6_records : Cond.instanceMethod yX6_records ∈ ps_T ∧ Cond.selects RX6 yX6_records yX6_records ∈ ps_T ∧ Cond.initialized RX6 ∈ ps_T ∧ Cond.code yX6_records cX6_records 2 none ∈ ps_T := ⟨ps_in 588 (by decide +kernel) (by decide +kernel), ps_in 9 (by decide +kernel) (by decide +kernel), ps_in 40 (by decide +kernel) (by decide +kernel), ps_in 589 (by decide +kernel) (by decide +kernel)⟩
theorem yw_X6_isStation : Cond.instanceMethod yX6_isStation ∈ ps_T ∧ Cond.selects RX6 yX6_isStation yX6_isStation ∈ ps_T ∧ Cond.initialized RX6 ∈ ps_T ∧ Cond.code yX6_isStation cX6_isStation 2 (some .boolean) ∈ ps_T := ⟨ps_in 614 (by decide +kernel) (by decide +kernel), ps_in 12 (by decide +kernel) (by decide +kernel), ps_in 40 (by decide +kernel) (by decide +kernel), ps_in 615 (by decide +kernel) (by decide +kernel)⟩
theorem yw_X6_isClerk : Cond.instanceMethod yX6_isClerk ∈ ps_T ∧ Cond.selects RX6 yX6_isClerk yX6_isClerk ∈ ps_T ∧ Cond.initialized RX6 ∈ ps_T ∧ Cond.code yX6_isClerk cX6_isClerk 2 (some .boolean) ∈ ps_T := ⟨ps_in 626 (by decide +kernel) (by decide +kernel), ps_in 14 (by decide +kernel) (by decide +kernel), ps_in 40 (by decide +kernel) (by decide +kernel), ps_in 627 (by decide +kernel) (by decide +kernel)⟩
theorem yw_X6_of : Cond.instanceMethod yX6_of ∈ ps_T ∧ Cond.selects RX6 yX6_of yX6_of ∈ ps_T ∧ Cond.initialized RX6 ∈ ps_T ∧ Cond.code yX6_of cX6_of 3 (some .int) ∈ ps_T := ⟨ps_in 618 (by decide +kernel) (by decide +kernel), ps_in 13 (by decide +kernel) (by decide +kernel), ps_in 40 (by decide +kernel) (by decide +kernel), ps_in 619 (by decide +kernel) (by decide +kernel)⟩
theorem yw_X6_adds : Cond.instanceMethod yX6_adds ∈ ps_T ∧ Cond.selects RX6 yX6_adds yX6_adds ∈ ps_T ∧ Cond.initialized RX6 ∈ ps_T ∧ Cond.code yX6_adds cX6_adds 4 none ∈ ps_T := ⟨ps_in 595 (by decide +kernel) (by decide +kernel), ps_in 10 (by decide +kernel) (by decide +kernel), ps_in 40 (by decide +kernel) (by decide +kernel), ps_in 596 (by decide +kernel) (by decide +kernel)⟩
theorem yw_X6_ofClerk : Cond.instanceMethod yX6_ofClerk ∈ ps_T ∧ Cond.selects RX6 yX6_ofClerk yX6_ofClerk ∈ ps_T ∧ Cond.initialized RX6 ∈ ps_T ∧ Cond.code yX6_ofClerk cX6_ofClerk 3 (some .int) ∈ ps_T := ⟨ps_in 634 (by decide +kernel) (by decide +kernel), ps_in 16 (by decide +kernel) (by decide +kernel), ps_in 40 (by decide +kernel) (by decide +kernel), ps_in 635 (by decide +kernel) (by decide +kernel)⟩
theorem yw_X6_laysClerk : Cond.instanceMethod yX6_laysClerk ∈ ps_T ∧ Cond.selects RX6 yX6_laysClerk yX6_laysClerk ∈ ps_T ∧ Cond.initialized RX6 ∈ ps_T ∧ Cond.code yX6_laysClerk cX6_laysClerk 4 none ∈ ps_T := ⟨ps_in 606 (by decide +kernel) (by decide +kernel), ps_in 11 (by decide +kernel) (by decide +kernel), ps_in 40 (by decide +kernel) (by decide +kernel), ps_in 607 (by decide +kernel) (by decide +kernel)⟩
theorem yw_X6_addStation : Cond.instanceMethod yX6_addStation ∈ ps_T ∧ Cond.selects RX6 yX6_addStation yX6_addStation ∈ ps_T ∧ Cond.initialized RX6 ∈ ps_T ∧ Cond.code yX6_addStation cX6_addStation 1 (some .int) ∈ ps_T := ⟨ps_in 583 (by decide +kernel) (by decide +kernel), ps_in 584 (by decide +kernel) (by decide +kernel), ps_in 40 (by decide +kernel) (by decide +kernel), ps_in 585 (by decide +kernel) (by decide +kernel)⟩
theorem yw_X6_addClerk : Cond.instanceMethod yX6_addClerk ∈ ps_T ∧ Cond.selects RX6 yX6_addClerk yX6_addClerk ∈ ps_T ∧ Cond.initialized RX6 ∈ ps_T ∧ Cond.code yX6_addClerk cX6_addClerk 4 (some .int) ∈ ps_T := ⟨ps_in 598 (by decide +kernel) (by decide +kernel), ps_in 599 (by decide +kernel) (by decide +kernel), ps_in 40 (by decide +kernel) (by decide +kernel), ps_in 600 (by decide +kernel) (by decide +kernel)⟩
theorem yw_X6_setArrivals : Cond.instanceMethod yX6_setArrivals ∈ ps_T ∧ Cond.selects RX6 yX6_setArrivals yX6_setArrivals ∈ ps_T ∧ Cond.initialized RX6 ∈ ps_T ∧ Cond.code yX6_setArrivals cX6_setArrivals 5 (some .int) ∈ ps_T := ⟨ps_in 609 (by decide +kernel) (by decide +kernel), ps_in 610 (by decide +kernel) (by decide +kernel), ps_in 40 (by decide +kernel) (by decide +kernel), ps_in 611 (by decide +kernel) (by decide +kernel)⟩
theorem yw_X6_isFree : Cond.instanceMethod yX6_isFree ∈ ps_T ∧ Cond.selects RX6 yX6_isFree yX6_isFree ∈ ps_T ∧ Cond.initialized RX6 ∈ ps_T ∧ Cond.code yX6_isFree cX6_isFree 2 (some .boolean) ∈ ps_T := ⟨ps_in 630 (by decide +kernel) (by decide +kernel), ps_in 15 (by decide +kernel) (by decide +kernel), ps_in 40 (by decide +kernel) (by decide +kernel), ps_in 631 (by decide +kernel) (by decide +kernel)⟩
theorem yw_X6_aheadOf : Cond.instanceMethod yX6_aheadOf ∈ ps_T ∧ Cond.selects RX6 yX6_aheadOf yX6_aheadOf ∈ ps_T ∧ Cond.initialized RX6 ∈ ps_T ∧ Cond.code yX6_aheadOf cX6_aheadOf 6 (some .int) ∈ ps_T := ⟨ps_in 670 (by decide +kernel) (by decide +kernel), ps_in 23 (by decide +kernel) (by decide +kernel), ps_in 40 (by decide +kernel) (by decide +kernel), ps_in 671 (by decide +kernel) (by decide +kernel)⟩
theorem yw_X6_freeAt : Cond.instanceMethod yX6_freeAt ∈ ps_T ∧ Cond.selects RX6 yX6_freeAt yX6_freeAt ∈ ps_T ∧ Cond.initialized RX6 ∈ ps_T ∧ Cond.code yX6_freeAt cX6_freeAt 3 (some .int) ∈ ps_T := ⟨ps_in 666 (by decide +kernel) (by decide +kernel), ps_in 22 (by decide +kernel) (by decide +kernel), ps_in 40 (by decide +kernel) (by decide +kernel), ps_in 667 (by decide +kernel) (by decide +kernel)⟩
theorem yw_X6_onDutyAt : Cond.instanceMethod yX6_onDutyAt ∈ ps_T ∧ Cond.selects RX6 yX6_onDutyAt yX6_onDutyAt ∈ ps_T ∧ Cond.initialized RX6 ∈ ps_T ∧ Cond.code yX6_onDutyAt cX6_onDutyAt 4 (some .int) ∈ ps_T := ⟨ps_in 638 (by decide +kernel) (by decide +kernel), ps_in 17 (by decide +kernel) (by decide +kernel), ps_in 40 (by decide +kernel) (by decide +kernel), ps_in 639 (by decide +kernel) (by decide +kernel)⟩
theorem yw_X6_serveAt : Cond.instanceMethod yX6_serveAt ∈ ps_T ∧ Cond.selects RX6 yX6_serveAt yX6_serveAt ∈ ps_T ∧ Cond.initialized RX6 ∈ ps_T ∧ Cond.code yX6_serveAt cX6_serveAt 4 (some .int) ∈ ps_T := ⟨ps_in 678 (by decide +kernel) (by decide +kernel), ps_in 25 (by decide +kernel) (by decide +kernel), ps_in 40 (by decide +kernel) (by decide +kernel), ps_in 679 (by decide +kernel) (by decide +kernel)⟩
theorem yw_X6_assign : Cond.instanceMethod yX6_assign ∈ ps_T ∧ Cond.selects RX6 yX6_assign yX6_assign ∈ ps_T ∧ Cond.initialized RX6 ∈ ps_T ∧ Cond.code yX6_assign cX6_assign 3 (some .int) ∈ ps_T := ⟨ps_in 621 (by decide +kernel) (by decide +kernel), ps_in 622 (by decide +kernel) (by decide +kernel), ps_in 40 (by decide +kernel) (by decide +kernel), ps_in 623 (by decide +kernel) (by decide +kernel)⟩
theorem yw_X6_leaves : Cond.instanceMethod yX6_leaves ∈ ps_T ∧ Cond.selects RX6 yX6_leaves yX6_leaves ∈ ps_T ∧ Cond.initialized RX6 ∈ ps_T ∧ Cond.code yX6_leaves cX6_leaves 3 none ∈ ps_T := ⟨ps_in 646 (by decide +kernel) (by decide +kernel), ps_in 18 (by decide +kernel) (by decide +kernel), ps_in 40 (by decide +kernel) (by decide +kernel), ps_in 647 (by decide +kernel) (by decide +kernel)⟩
theorem yw_X6_relieve : Cond.instanceMethod yX6_relieve ∈ ps_T ∧ Cond.selects RX6 yX6_relieve yX6_relieve ∈ ps_T ∧ Cond.initialized RX6 ∈ ps_T ∧ Cond.code yX6_relieve cX6_relieve 3 (some .int) ∈ ps_T := ⟨ps_in 641 (by decide +kernel) (by decide +kernel), ps_in 642 (by decide +kernel) (by decide +kernel), ps_in 40 (by decide +kernel) (by decide +kernel), ps_in 643 (by decide +kernel) (by decide +kernel)⟩
theorem yw_X6_serves : Cond.instanceMethod yX6_serves ∈ ps_T ∧ Cond.selects RX6 yX6_serves yX6_serves ∈ ps_T ∧ Cond.initialized RX6 ∈ ps_T ∧ Cond.code yX6_serves cX6_serves 3 (some .int) ∈ ps_T := ⟨ps_in 674 (by decide +kernel) (by decide +kernel), ps_in 24 (by decide +kernel) (by decide +kernel), ps_in 40 (by decide +kernel) (by decide +kernel), ps_in 675 (by decide +kernel) (by decide +kernel)⟩
theorem yw_X6_takesTurns : Cond.instanceMethod yX6_takesTurns ∈ ps_T ∧ Cond.selects RX6 yX6_takesTurns yX6_takesTurns ∈ ps_T ∧ Cond.initialized RX6 ∈ ps_T ∧ Cond.code yX6_takesTurns cX6_takesTurns 4 none ∈ ps_T := ⟨ps_in 662 (by decide +kernel) (by decide +kernel), ps_in 21 (by decide +kernel) (by decide +kernel), ps_in 40 (by decide +kernel) (by decide +kernel), ps_in 663 (by decide +kernel) (by decide +kernel)⟩
theorem yw_X6_hourPasses : Cond.instanceMethod yX6_hourPasses ∈ ps_T ∧ Cond.selects RX6 yX6_hourPasses yX6_hourPasses ∈ ps_T ∧ Cond.initialized RX6 ∈ ps_T ∧ Cond.code yX6_hourPasses cX6_hourPasses 5 (some .int) ∈ ps_T := ⟨ps_in 658 (by decide +kernel) (by decide +kernel), ps_in 20 (by decide +kernel) (by decide +kernel), ps_in 40 (by decide +kernel) (by decide +kernel), ps_in 659 (by decide +kernel) (by decide +kernel)⟩
theorem yw_X6_hoursPass : Cond.instanceMethod yX6_hoursPass ∈ ps_T ∧ Cond.selects RX6 yX6_hoursPass yX6_hoursPass ∈ ps_T ∧ Cond.initialized RX6 ∈ ps_T ∧ Cond.code yX6_hoursPass cX6_hoursPass 4 (some .int) ∈ ps_T := ⟨ps_in 654 (by decide +kernel) (by decide +kernel), ps_in 19 (by decide +kernel) (by decide +kernel), ps_in 40 (by decide +kernel) (by decide +kernel), ps_in 655 (by decide +kernel) (by decide +kernel)⟩
theorem yw_X6_pass : Cond.instanceMethod yX6_pass ∈ ps_T ∧ Cond.selects RX6 yX6_pass yX6_pass ∈ ps_T ∧ Cond.initialized RX6 ∈ ps_T ∧ Cond.code yX6_pass cX6_pass 2 (some .int) ∈ ps_T := ⟨ps_in 649 (by decide +kernel) (by decide +kernel), ps_in 650 (by decide +kernel) (by decide +kernel), ps_in 40 (by decide +kernel) (by decide +kernel), ps_in 651 (by decide +kernel) (by decide +kernel)⟩
theorem yw_X6_supply : Cond.instanceMethod yX6_supply ∈ ps_T ∧ Cond.selects RX6 yX6_supply yX6_supply ∈ ps_T ∧ Cond.initialized RX6 ∈ ps_T ∧ Cond.code yX6_supply cX6_supply 3 (some .int) ∈ ps_T := ⟨ps_in 681 (by decide +kernel) (by decide +kernel), ps_in 682 (by decide +kernel) (by decide +kernel), ps_in 40 (by decide +kernel) (by decide +kernel), ps_in 683 (by decide +kernel) (by decide +kernel)⟩
theorem yw_X6_movePapers : Cond.instanceMethod yX6_movePapers ∈ ps_T ∧ Cond.selects RX6 yX6_movePapers yX6_movePapers ∈ ps_T ∧ Cond.initialized RX6 ∈ ps_T ∧ Cond.code yX6_movePapers cX6_movePapers 4 (some .int) ∈ ps_T := ⟨ps_in 685 (by decide +kernel) (by decide +kernel), ps_in 686 (by decide +kernel) (by decide +kernel), ps_in 40 (by decide +kernel) (by decide +kernel), ps_in 687 (by decide +kernel) (by decide +kernel)⟩
theorem yw_X6_spoil : Cond.instanceMethod yX6_spoil ∈ ps_T ∧ Cond.selects RX6 yX6_spoil yX6_spoil ∈ ps_T ∧ Cond.initialized RX6 ∈ ps_T ∧ Cond.code yX6_spoil cX6_spoil 3 (some .int) ∈ ps_T := ⟨ps_in 689 (by decide +kernel) (by decide +kernel), ps_in 690 (by decide +kernel) (by decide +kernel), ps_in 40 (by decide +kernel) (by decide +kernel), ps_in 691 (by decide +kernel) (by decide +kernel)⟩
theorem yw_X6_carryOff : Cond.instanceMethod yX6_carryOff ∈ ps_T ∧ Cond.selects RX6 yX6_carryOff yX6_carryOff ∈ ps_T ∧ Cond.initialized RX6 ∈ ps_T ∧ Cond.code yX6_carryOff cX6_carryOff 3 (some .int) ∈ ps_T := ⟨ps_in 693 (by decide +kernel) (by decide +kernel), ps_in 694 (by decide +kernel) (by decide +kernel), ps_in 40 (by decide +kernel) (by decide +kernel), ps_in 695 (by decide +kernel) (by decide +kernel)⟩
theorem yw_X6_find : Cond.instanceMethod yX6_find ∈ ps_T ∧ Cond.selects RX6 yX6_find yX6_find ∈ ps_T ∧ Cond.initialized RX6 ∈ ps_T ∧ Cond.code yX6_find cX6_find 3 (some .int) ∈ ps_T := ⟨ps_in 697 (by decide +kernel) (by decide +kernel), ps_in 698 (by decide +kernel) (by decide +kernel), ps_in 40 (by decide +kernel) (by decide +kernel), ps_in 699 (by decide +kernel) (by decide +kernel)⟩
theorem yw_X6_countBox : Cond.instanceMethod yX6_countBox ∈ ps_T ∧ Cond.selects RX6 yX6_countBox yX6_countBox ∈ ps_T ∧ Cond.initialized RX6 ∈ ps_T ∧ Cond.code yX6_countBox cX6_countBox 3 (some .int) ∈ ps_T := ⟨ps_in 701 (by decide +kernel) (by decide +kernel), ps_in 702 (by decide +kernel) (by decide +kernel), ps_in 40 (by decide +kernel) (by decide +kernel), ps_in 703 (by decide +kernel) (by decide +kernel)⟩
theorem yw_X6_type : Cond.instanceMethod yX6_type ∈ ps_T ∧ Cond.selects RX6 yX6_type yX6_type ∈ ps_T ∧ Cond.initialized RX6 ∈ ps_T ∧ Cond.code yX6_type cX6_type 2 (some .int) ∈ ps_T := ⟨ps_in 706 (by decide +kernel) (by decide +kernel), ps_in 707 (by decide +kernel) (by decide +kernel), ps_in 40 (by decide +kernel) (by decide +kernel), ps_in 708 (by decide +kernel) (by decide +kernel)⟩
theorem yw_X6_clearText : Cond.instanceMethod yX6_clearText ∈ ps_T ∧ Cond.selects RX6 yX6_clearText yX6_clearText ∈ ps_T ∧ Cond.initialized RX6 ∈ ps_T ∧ Cond.code yX6_clearText cX6_clearText 2 (some .int) ∈ ps_T := ⟨ps_in 710 (by decide +kernel) (by decide +kernel), ps_in 711 (by decide +kernel) (by decide +kernel), ps_in 40 (by decide +kernel) (by decide +kernel), ps_in 712 (by decide +kernel) (by decide +kernel)⟩
theorem yw_X6_signAt : Cond.instanceMethod yX6_signAt ∈ ps_T ∧ Cond.selects RX6 yX6_signAt yX6_signAt ∈ ps_T ∧ Cond.initialized RX6 ∈ ps_T ∧ Cond.code yX6_signAt cX6_signAt 2 (some .int) ∈ ps_T := ⟨ps_in 723 (by decide +kernel) (by decide +kernel), ps_in 27 (by decide +kernel) (by decide +kernel), ps_in 40 (by decide +kernel) (by decide +kernel), ps_in 724 (by decide +kernel) (by decide +kernel)⟩
theorem yw_X6_faultOf : Cond.instanceMethod yX6_faultOf ∈ ps_T ∧ Cond.selects RX6 yX6_faultOf yX6_faultOf ∈ ps_T ∧ Cond.initialized RX6 ∈ ps_T ∧ Cond.code yX6_faultOf cX6_faultOf 5 (some .int) ∈ ps_T := ⟨ps_in 719 (by decide +kernel) (by decide +kernel), ps_in 26 (by decide +kernel) (by decide +kernel), ps_in 40 (by decide +kernel) (by decide +kernel), ps_in 720 (by decide +kernel) (by decide +kernel)⟩
theorem yw_X6_readArrivals : Cond.instanceMethod yX6_readArrivals ∈ ps_T ∧ Cond.selects RX6 yX6_readArrivals yX6_readArrivals ∈ ps_T ∧ Cond.initialized RX6 ∈ ps_T ∧ Cond.code yX6_readArrivals cX6_readArrivals 5 (some .int) ∈ ps_T := ⟨ps_in 714 (by decide +kernel) (by decide +kernel), ps_in 715 (by decide +kernel) (by decide +kernel), ps_in 40 (by decide +kernel) (by decide +kernel), ps_in 716 (by decide +kernel) (by decide +kernel)⟩
theorem yw_X6_undo : Cond.instanceMethod yX6_undo ∈ ps_T ∧ Cond.selects RX6 yX6_undo yX6_undo ∈ ps_T ∧ Cond.initialized RX6 ∈ ps_T ∧ Cond.code yX6_undo cX6_undo 1 (some .int) ∈ ps_T := ⟨ps_in 726 (by decide +kernel) (by decide +kernel), ps_in 727 (by decide +kernel) (by decide +kernel), ps_in 40 (by decide +kernel) (by decide +kernel), ps_in 728 (by decide +kernel) (by decide +kernel)⟩
theorem yw_X6_keep : Cond.instanceMethod yX6_keep ∈ ps_T ∧ Cond.selects RX6 yX6_keep yX6_keep ∈ ps_T ∧ Cond.initialized RX6 ∈ ps_T ∧ Cond.code yX6_keep cX6_keep 1 (some .int) ∈ ps_T := ⟨ps_in 730 (by decide +kernel) (by decide +kernel), ps_in 731 (by decide +kernel) (by decide +kernel), ps_in 40 (by decide +kernel) (by decide +kernel), ps_in 732 (by decide +kernel) (by decide +kernel)⟩
theorem yw_X6_restore : Cond.instanceMethod yX6_restore ∈ ps_T ∧ Cond.selects RX6 yX6_restore yX6_restore ∈ ps_T ∧ Cond.initialized RX6 ∈ ps_T ∧ Cond.code yX6_restore cX6_restore 1 (some .int) ∈ ps_T := ⟨ps_in 734 (by decide +kernel) (by decide +kernel), ps_in 735 (by decide +kernel) (by decide +kernel), ps_in 40 (by decide +kernel) (by decide +kernel), ps_in 736 (by decide +kernel) (by decide +kernel)⟩
theorem yw_X6_toServe : Cond.instanceMethod yX6_toServe ∈ ps_T ∧ Cond.selects RX6 yX6_toServe yX6_toServe ∈ ps_T ∧ Cond.initialized RX6 ∈ ps_T ∧ Cond.code yX6_toServe cX6_toServe 4 (some .int) ∈ ps_T := ⟨ps_in 747 (by decide +kernel) (by decide +kernel), ps_in 29 (by decide +kernel) (by decide +kernel), ps_in 40 (by decide +kernel) (by decide +kernel), ps_in 748 (by decide +kernel) (by decide +kernel)⟩
theorem yw_X6_arrivalsAll : Cond.instanceMethod yX6_arrivalsAll ∈ ps_T ∧ Cond.selects RX6 yX6_arrivalsAll yX6_arrivalsAll ∈ ps_T ∧ Cond.initialized RX6 ∈ ps_T ∧ Cond.code yX6_arrivalsAll cX6_arrivalsAll 4 (some .int) ∈ ps_T := ⟨ps_in 743 (by decide +kernel) (by decide +kernel), ps_in 28 (by decide +kernel) (by decide +kernel), ps_in 40 (by decide +kernel) (by decide +kernel), ps_in 744 (by decide +kernel) (by decide +kernel)⟩
theorem yw_X6_station : Cond.instanceMethod yX6_station ∈ ps_T ∧ Cond.selects RX6 yX6_station yX6_station ∈ ps_T ∧ Cond.initialized RX6 ∈ ps_T ∧ Cond.code yX6_station cX6_station 3 (some .int) ∈ ps_T := ⟨ps_in 738 (by decide +kernel) (by decide +kernel), ps_in 739 (by decide +kernel) (by decide +kernel), ps_in 40 (by decide +kernel) (by decide +kernel), ps_in 740 (by decide +kernel) (by decide +kernel)⟩
theorem yw_X6_papers : Cond.instanceMethod yX6_papers ∈ ps_T ∧ Cond.selects RX6 yX6_papers yX6_papers ∈ ps_T ∧ Cond.initialized RX6 ∈ ps_T ∧ Cond.code yX6_papers cX6_papers 4 (some .int) ∈ ps_T := ⟨ps_in 750 (by decide +kernel) (by decide +kernel), ps_in 751 (by decide +kernel) (by decide +kernel), ps_in 40 (by decide +kernel) (by decide +kernel), ps_in 752 (by decide +kernel) (by decide +kernel)⟩
theorem yw_X6_clerk : Cond.instanceMethod yX6_clerk ∈ ps_T ∧ Cond.selects RX6 yX6_clerk yX6_clerk ∈ ps_T ∧ Cond.initialized RX6 ∈ ps_T ∧ Cond.code yX6_clerk cX6_clerk 3 (some .int) ∈ ps_T := ⟨ps_in 755 (by decide +kernel) (by decide +kernel), ps_in 756 (by decide +kernel) (by decide +kernel), ps_in 40 (by decide +kernel) (by decide +kernel), ps_in 757 (by decide +kernel) (by decide +kernel)⟩
theorem yw_X6_arrivals : Cond.instanceMethod yX6_arrivals ∈ ps_T ∧ Cond.selects RX6 yX6_arrivals yX6_arrivals ∈ ps_T ∧ Cond.initialized RX6 ∈ ps_T ∧ Cond.code yX6_arrivals cX6_arrivals 3 (some .int) ∈ ps_T := ⟨ps_in 759 (by decide +kernel) (by decide +kernel), ps_in 760 (by decide +kernel) (by decide +kernel), ps_in 40 (by decide +kernel) (by decide +kernel), ps_in 761 (by decide +kernel) (by decide +kernel)⟩
theorem yw_X6_free : Cond.instanceMethod yX6_free ∈ ps_T ∧ Cond.selects RX6 yX6_free yX6_free ∈ ps_T ∧ Cond.initialized RX6 ∈ ps_T ∧ Cond.code yX6_free cX6_free 2 (some .int) ∈ ps_T := ⟨ps_in 763 (by decide +kernel) (by decide +kernel), ps_in 764 (by decide +kernel) (by decide +kernel), ps_in 40 (by decide +kernel) (by decide +kernel), ps_in 765 (by decide +kernel) (by decide +kernel)⟩
theorem yw_X6_busiest : Cond.instanceMethod yX6_busiest ∈ ps_T ∧ Cond.selects RX6 yX6_busiest yX6_busiest ∈ ps_T ∧ Cond.initialized RX6 ∈ ps_T ∧ Cond.code yX6_busiest cX6_busiest 5 (some .int) ∈ ps_T := ⟨ps_in 767 (by decide +kernel) (by decide +kernel), ps_in 768 (by decide +kernel) (by decide +kernel), ps_in 40 (by decide +kernel) (by decide +kernel), ps_in 769 (by decide +kernel) (by decide +kernel)⟩
theorem yw_X6_queueIn : Cond.instanceMethod yX6_queueIn ∈ ps_T ∧ Cond.selects RX6 yX6_queueIn yX6_queueIn ∈ ps_T ∧ Cond.initialized RX6 ∈ ps_T ∧ Cond.code yX6_queueIn cX6_queueIn 5 (some .int) ∈ ps_T := ⟨ps_in 771 (by decide +kernel) (by decide +kernel), ps_in 772 (by decide +kernel) (by decide +kernel), ps_in 40 (by decide +kernel) (by decide +kernel), ps_in 773 (by decide +kernel) (by decide +kernel)⟩
theorem yw_X6_lacks : Cond.instanceMethod yX6_lacks ∈ ps_T ∧ Cond.selects RX6 yX6_lacks yX6_lacks ∈ ps_T ∧ Cond.initialized RX6 ∈ ps_T ∧ Cond.code yX6_lacks cX6_lacks 6 (some .int) ∈ ps_T := ⟨ps_in 775 (by decide +kernel) (by decide +kernel), ps_in 776 (by decide +kernel) (by decide +kernel), ps_in 40 (by decide +kernel) (by decide +kernel), ps_in 777 (by decide +kernel) (by decide +kernel)⟩
theorem yw_X6_overStations : Cond.instanceMethod yX6_overStations ∈ ps_T ∧ Cond.selects RX6 yX6_overStations yX6_overStations ∈ ps_T ∧ Cond.initialized RX6 ∈ ps_T ∧ Cond.code yX6_overStations cX6_overStations 4 (some .int) ∈ ps_T := ⟨ps_in 789 (by decide +kernel) (by decide +kernel), ps_in 31 (by decide +kernel) (by decide +kernel), ps_in 40 (by decide +kernel) (by decide +kernel), ps_in 790 (by decide +kernel) (by decide +kernel)⟩
theorem yw_X6_countedAs : Cond.instanceMethod yX6_countedAs ∈ ps_T ∧ Cond.selects RX6 yX6_countedAs yX6_countedAs ∈ ps_T ∧ Cond.initialized RX6 ∈ ps_T ∧ Cond.code yX6_countedAs cX6_countedAs 4 (some .int) ∈ ps_T := ⟨ps_in 793 (by decide +kernel) (by decide +kernel), ps_in 32 (by decide +kernel) (by decide +kernel), ps_in 40 (by decide +kernel) (by decide +kernel), ps_in 794 (by decide +kernel) (by decide +kernel)⟩
theorem yw_X6_overClerks : Cond.instanceMethod yX6_overClerks ∈ ps_T ∧ Cond.selects RX6 yX6_overClerks yX6_overClerks ∈ ps_T ∧ Cond.initialized RX6 ∈ ps_T ∧ Cond.code yX6_overClerks cX6_overClerks 5 (some .int) ∈ ps_T := ⟨ps_in 785 (by decide +kernel) (by decide +kernel), ps_in 30 (by decide +kernel) (by decide +kernel), ps_in 40 (by decide +kernel) (by decide +kernel), ps_in 786 (by decide +kernel) (by decide +kernel)⟩
theorem yw_X6_count : Cond.instanceMethod yX6_count ∈ ps_T ∧ Cond.selects RX6 yX6_count yX6_count ∈ ps_T ∧ Cond.initialized RX6 ∈ ps_T ∧ Cond.code yX6_count cX6_count 2 (some .int) ∈ ps_T := ⟨ps_in 780 (by decide +kernel) (by decide +kernel), ps_in 781 (by decide +kernel) (by decide +kernel), ps_in 40 (by decide +kernel) (by decide +kernel), ps_in 782 (by decide +kernel) (by decide +kernel)⟩
theorem lkj_max : Cond.static Lib.Math.max.name ∈ ps_T := ps_in 371 (by decide +kernel) (by decide +kernel)
theorem lkj_min : Cond.static Lib.Math.min.name ∈ ps_T := ps_in 368 (by decide +kernel) (by decide +kernel)
theorem lkj_math : Cond.initialized "java/lang/Math" ∈ ps_T := ps_in 42 (by decide +kernel) (by decide +kernel)
theorem lkj_sys : Cond.initialized "java/lang/System" ∈ ps_T := ps_in 41 (by decide +kernel) (by decide +kernel)
theorem lkj_cps : Cond.static arraycopyName ∈ ps_T := ps_in 258 (by decide +kernel) (by decide +kernel)
theorem lkj_cpn : Cond.native arraycopyName ∈ ps_T := ps_in 259 (by decide +kernel) (by decide +kernel)
theorem lkj_oi : Cond.instanceMethod objectInit ∈ ps_T := ps_in 49 (by decide +kernel) (by decide +kernel)
theorem lkj_ai : Cond.arrayClass .int ∈ ps_T := ps_in 119 (by decide +kernel) (by decide +kernel)
theorem lkj_ac : Cond.arrayClass .char ∈ ps_T := ps_in 214 (by decide +kernel) (by decide +kernel)
theorem lkj_maxc : Cond.code Lib.Math.max.name Lib.Math.max.code 2 (some .int) ∈ ps_T := ps_in 372 (by decide +kernel) (by decide +kernel)
theorem lkj_minc : Cond.code Lib.Math.min.name Lib.Math.min.code 2 (some .int) ∈ ps_T := ps_in 369 (by decide +kernel) (by decide +kernel)
theorem lkj_oic : Cond.code objectInit ⟨#[0xb1]⟩ 1 none ∈ ps_T := ps_in 50 (by decide +kernel) (by decide +kernel)
theorem lki_X5 : Cond.initialized RX5 ∈ ps_T := ps_in 34 (by decide +kernel) (by decide +kernel)
theorem lki_X2 : Cond.initialized RX2 ∈ ps_T := ps_in 35 (by decide +kernel) (by decide +kernel)
theorem lki_X4 : Cond.initialized RX4 ∈ ps_T := ps_in 36 (by decide +kernel) (by decide +kernel)
theorem lki_X1 : Cond.initialized RX1 ∈ ps_T := ps_in 37 (by decide +kernel) (by decide +kernel)
theorem lki_X3 : Cond.initialized RX3 ∈ ps_T := ps_in 38 (by decide +kernel) (by decide +kernel)
theorem lki_X0 : Cond.initialized RX0 ∈ ps_T := ps_in 39 (by decide +kernel) (by decide +kernel)
theorem lki_X6 : Cond.initialized RX6 ∈ ps_T := ps_in 40 (by decide +kernel) (by decide +kernel)
theorem lkn_X5 : Cond.instantiable RX5 7 ∈ ps_T := ps_in 44 (by decide +kernel) (by decide +kernel)
theorem lkn_X2 : Cond.instantiable RX2 5 ∈ ps_T := ps_in 52 (by decide +kernel) (by decide +kernel)
theorem lkn_X4 : Cond.instantiable RX4 13 ∈ ps_T := ps_in 59 (by decide +kernel) (by decide +kernel)
theorem lkn_X1 : Cond.instantiable RX1 6 ∈ ps_T := ps_in 122 (by decide +kernel) (by decide +kernel)
theorem lkn_X3 : Cond.instantiable RX3 2 ∈ ps_T := ps_in 179 (by decide +kernel) (by decide +kernel)
theorem lkn_X0 : Cond.instantiable RX0 3 ∈ ps_T := ps_in 196 (by decide +kernel) (by decide +kernel)
theorem lkn_X6 : Cond.instantiable RX6 10 ∈ ps_T := ps_in 546 (by decide +kernel) (by decide +kernel)
end
section
theorem dX0_init_0 : decode cX0_init 0 = .ok (.aload_n 0, 1) := by decide +kernel
theorem dX0_init_1 : decode cX0_init 1 = .ok (.invokespecial 3, 3) := by decide +kernel
theorem dX0_init_4 : decode cX0_init 4 = .ok (.aload_n 0, 1) := by decide +kernel
theorem dX0_init_5 : decode cX0_init 5 = .ok (.bipush 60, 2) := by decide +kernel
theorem dX0_init_7 : decode cX0_init 7 = .ok (.newarray .char, 2) := by decide +kernel
theorem dX0_init_9 : decode cX0_init 9 = .ok (.putfield 9, 3) := by decide +kernel
theorem dX0_init_12 : decode cX0_init 12 = .ok (.aload_n 0, 1) := by decide +kernel
theorem dX0_init_13 : decode cX0_init 13 = .ok (.bipush 30, 2) := by decide +kernel
theorem dX0_init_15 : decode cX0_init 15 = .ok (.newarray .int, 2) := by decide +kernel
theorem dX0_init_17 : decode cX0_init 17 = .ok (.putfield 15, 3) := by decide +kernel
theorem dX0_init_20 : decode cX0_init 20 = .ok (.return_, 1) := by decide +kernel
theorem dX0_fault_0 : decode cX0_fault 0 = .ok (.iconst 0, 1) := by decide +kernel
theorem dX0_fault_1 : decode cX0_fault 1 = .ok (.istore_n 1, 1) := by decide +kernel
theorem dX0_fault_2 : decode cX0_fault 2 = .ok (.iconst 0, 1) := by decide +kernel
theorem dX0_fault_3 : decode cX0_fault 3 = .ok (.istore_n 2, 1) := by decide +kernel
theorem dX0_fault_4 : decode cX0_fault 4 = .ok (.iconst 0, 1) := by decide +kernel
theorem dX0_fault_5 : decode cX0_fault 5 = .ok (.istore_n 3, 1) := by decide +kernel
theorem dX0_fault_6 : decode cX0_fault 6 = .ok (.iload_n 3, 1) := by decide +kernel
theorem dX0_fault_7 : decode cX0_fault 7 = .ok (.aload_n 0, 1) := by decide +kernel
theorem dX0_fault_8 : decode cX0_fault 8 = .ok (.getfield 19, 3) := by decide +kernel
theorem dX0_fault_11 : decode cX0_fault 11 = .ok (.if_icmp .ge 76, 3) := by decide +kernel
theorem dX0_fault_14 : decode cX0_fault 14 = .ok (.aload_n 0, 1) := by decide +kernel
theorem dX0_fault_15 : decode cX0_fault 15 = .ok (.getfield 9, 3) := by decide +kernel
theorem dX0_fault_18 : decode cX0_fault 18 = .ok (.iload_n 3, 1) := by decide +kernel
theorem dX0_fault_19 : decode cX0_fault 19 = .ok (.caload, 1) := by decide +kernel
theorem dX0_fault_20 : decode cX0_fault 20 = .ok (.istore 4, 2) := by decide +kernel
theorem dX0_fault_22 : decode cX0_fault 22 = .ok (.iload 4, 2) := by decide +kernel
theorem dX0_fault_24 : decode cX0_fault 24 = .ok (.invokestatic 23, 3) := by decide +kernel
theorem dX0_fault_27 : decode cX0_fault 27 = .ok (.ifCond .eq 37, 3) := by decide +kernel
theorem dX0_fault_30 : decode cX0_fault 30 = .ok (.iload_n 1, 1) := by decide +kernel
theorem dX0_fault_31 : decode cX0_fault 31 = .ok (.iconst 3, 1) := by decide +kernel
theorem dX0_fault_32 : decode cX0_fault 32 = .ok (.if_icmp .eq 7, 3) := by decide +kernel
theorem dX0_fault_35 : decode cX0_fault 35 = .ok (.iload_n 2, 1) := by decide +kernel
theorem dX0_fault_36 : decode cX0_fault 36 = .ok (.ifCond .eq 5, 3) := by decide +kernel
theorem dX0_fault_39 : decode cX0_fault 39 = .ok (.iload_n 3, 1) := by decide +kernel
theorem dX0_fault_40 : decode cX0_fault 40 = .ok (.ireturn, 1) := by decide +kernel
theorem dX0_fault_41 : decode cX0_fault 41 = .ok (.iload_n 1, 1) := by decide +kernel
theorem dX0_fault_42 : decode cX0_fault 42 = .ok (.ifCond .ne 14, 3) := by decide +kernel
theorem dX0_fault_45 : decode cX0_fault 45 = .ok (.iload 4, 2) := by decide +kernel
theorem dX0_fault_47 : decode cX0_fault 47 = .ok (.bipush 48, 2) := by decide +kernel
theorem dX0_fault_49 : decode cX0_fault 49 = .ok (.if_icmp .ne 7, 3) := by decide +kernel
theorem dX0_fault_52 : decode cX0_fault 52 = .ok (.iconst 1, 1) := by decide +kernel
theorem dX0_fault_53 : decode cX0_fault 53 = .ok (.goto 4, 3) := by decide +kernel
theorem dX0_fault_56 : decode cX0_fault 56 = .ok (.iconst 0, 1) := by decide +kernel
theorem dX0_fault_57 : decode cX0_fault 57 = .ok (.istore_n 2, 1) := by decide +kernel
theorem dX0_fault_58 : decode cX0_fault 58 = .ok (.iinc 1 1, 3) := by decide +kernel
theorem dX0_fault_61 : decode cX0_fault 61 = .ok (.goto 20, 3) := by decide +kernel
theorem dX0_fault_64 : decode cX0_fault 64 = .ok (.iload 4, 2) := by decide +kernel
theorem dX0_fault_66 : decode cX0_fault 66 = .ok (.bipush 44, 2) := by decide +kernel
theorem dX0_fault_68 : decode cX0_fault 68 = .ok (.if_icmp .ne 7, 3) := by decide +kernel
theorem dX0_fault_71 : decode cX0_fault 71 = .ok (.iload_n 1, 1) := by decide +kernel
theorem dX0_fault_72 : decode cX0_fault 72 = .ok (.ifCond .ne 5, 3) := by decide +kernel
theorem dX0_fault_75 : decode cX0_fault 75 = .ok (.iload_n 3, 1) := by decide +kernel
theorem dX0_fault_76 : decode cX0_fault 76 = .ok (.ireturn, 1) := by decide +kernel
theorem dX0_fault_77 : decode cX0_fault 77 = .ok (.iconst 0, 1) := by decide +kernel
theorem dX0_fault_78 : decode cX0_fault 78 = .ok (.istore_n 1, 1) := by decide +kernel
theorem dX0_fault_79 : decode cX0_fault 79 = .ok (.iconst 0, 1) := by decide +kernel
theorem dX0_fault_80 : decode cX0_fault 80 = .ok (.istore_n 2, 1) := by decide +kernel
theorem dX0_fault_81 : decode cX0_fault 81 = .ok (.iinc 3 1, 3) := by decide +kernel
theorem dX0_fault_84 : decode cX0_fault 84 = .ok (.goto (-78), 3) := by decide +kernel
theorem dX0_fault_87 : decode cX0_fault 87 = .ok (.iload_n 1, 1) := by decide +kernel
theorem dX0_fault_88 : decode cX0_fault 88 = .ok (.ifCond .ne 10, 3) := by decide +kernel
theorem dX0_fault_91 : decode cX0_fault 91 = .ok (.aload_n 0, 1) := by decide +kernel
theorem dX0_fault_92 : decode cX0_fault 92 = .ok (.getfield 19, 3) := by decide +kernel
theorem dX0_fault_95 : decode cX0_fault 95 = .ok (.goto 4, 3) := by decide +kernel
theorem dX0_fault_98 : decode cX0_fault 98 = .ok (.iconst (-1), 1) := by decide +kernel
theorem dX0_fault_99 : decode cX0_fault 99 = .ok (.ireturn, 1) := by decide +kernel
theorem dX0_readNumbers_0 : decode cX0_readNumbers 0 = .ok (.iconst 0, 1) := by decide +kernel
theorem dX0_readNumbers_1 : decode cX0_readNumbers 1 = .ok (.istore_n 1, 1) := by decide +kernel
theorem dX0_readNumbers_2 : decode cX0_readNumbers 2 = .ok (.aload_n 0, 1) := by decide +kernel
theorem dX0_readNumbers_3 : decode cX0_readNumbers 3 = .ok (.getfield 15, 3) := by decide +kernel
theorem dX0_readNumbers_6 : decode cX0_readNumbers 6 = .ok (.iconst 0, 1) := by decide +kernel
theorem dX0_readNumbers_7 : decode cX0_readNumbers 7 = .ok (.iconst 0, 1) := by decide +kernel
theorem dX0_readNumbers_8 : decode cX0_readNumbers 8 = .ok (.iastore, 1) := by decide +kernel
theorem dX0_readNumbers_9 : decode cX0_readNumbers 9 = .ok (.iconst 0, 1) := by decide +kernel
theorem dX0_readNumbers_10 : decode cX0_readNumbers 10 = .ok (.istore_n 2, 1) := by decide +kernel
theorem dX0_readNumbers_11 : decode cX0_readNumbers 11 = .ok (.iload_n 2, 1) := by decide +kernel
theorem dX0_readNumbers_12 : decode cX0_readNumbers 12 = .ok (.aload_n 0, 1) := by decide +kernel
theorem dX0_readNumbers_13 : decode cX0_readNumbers 13 = .ok (.getfield 19, 3) := by decide +kernel
theorem dX0_readNumbers_16 : decode cX0_readNumbers 16 = .ok (.if_icmp .ge 66, 3) := by decide +kernel
theorem dX0_readNumbers_19 : decode cX0_readNumbers 19 = .ok (.aload_n 0, 1) := by decide +kernel
theorem dX0_readNumbers_20 : decode cX0_readNumbers 20 = .ok (.getfield 9, 3) := by decide +kernel
theorem dX0_readNumbers_23 : decode cX0_readNumbers 23 = .ok (.iload_n 2, 1) := by decide +kernel
theorem dX0_readNumbers_24 : decode cX0_readNumbers 24 = .ok (.caload, 1) := by decide +kernel
theorem dX0_readNumbers_25 : decode cX0_readNumbers 25 = .ok (.bipush 44, 2) := by decide +kernel
theorem dX0_readNumbers_27 : decode cX0_readNumbers 27 = .ok (.if_icmp .eq 31, 3) := by decide +kernel
theorem dX0_readNumbers_30 : decode cX0_readNumbers 30 = .ok (.aload_n 0, 1) := by decide +kernel
theorem dX0_readNumbers_31 : decode cX0_readNumbers 31 = .ok (.getfield 15, 3) := by decide +kernel
theorem dX0_readNumbers_34 : decode cX0_readNumbers 34 = .ok (.iload_n 1, 1) := by decide +kernel
theorem dX0_readNumbers_35 : decode cX0_readNumbers 35 = .ok (.aload_n 0, 1) := by decide +kernel
theorem dX0_readNumbers_36 : decode cX0_readNumbers 36 = .ok (.getfield 15, 3) := by decide +kernel
theorem dX0_readNumbers_39 : decode cX0_readNumbers 39 = .ok (.iload_n 1, 1) := by decide +kernel
theorem dX0_readNumbers_40 : decode cX0_readNumbers 40 = .ok (.iaload, 1) := by decide +kernel
theorem dX0_readNumbers_41 : decode cX0_readNumbers 41 = .ok (.bipush 10, 2) := by decide +kernel
theorem dX0_readNumbers_43 : decode cX0_readNumbers 43 = .ok (.imul, 1) := by decide +kernel
theorem dX0_readNumbers_44 : decode cX0_readNumbers 44 = .ok (.aload_n 0, 1) := by decide +kernel
theorem dX0_readNumbers_45 : decode cX0_readNumbers 45 = .ok (.getfield 9, 3) := by decide +kernel
theorem dX0_readNumbers_48 : decode cX0_readNumbers 48 = .ok (.iload_n 2, 1) := by decide +kernel
theorem dX0_readNumbers_49 : decode cX0_readNumbers 49 = .ok (.caload, 1) := by decide +kernel
theorem dX0_readNumbers_50 : decode cX0_readNumbers 50 = .ok (.bipush 48, 2) := by decide +kernel
theorem dX0_readNumbers_52 : decode cX0_readNumbers 52 = .ok (.isub, 1) := by decide +kernel
theorem dX0_readNumbers_53 : decode cX0_readNumbers 53 = .ok (.iadd, 1) := by decide +kernel
theorem dX0_readNumbers_54 : decode cX0_readNumbers 54 = .ok (.iastore, 1) := by decide +kernel
theorem dX0_readNumbers_55 : decode cX0_readNumbers 55 = .ok (.goto 21, 3) := by decide +kernel
theorem dX0_readNumbers_58 : decode cX0_readNumbers 58 = .ok (.iload_n 1, 1) := by decide +kernel
theorem dX0_readNumbers_59 : decode cX0_readNumbers 59 = .ok (.iconst 1, 1) := by decide +kernel
theorem dX0_readNumbers_60 : decode cX0_readNumbers 60 = .ok (.iadd, 1) := by decide +kernel
theorem dX0_readNumbers_61 : decode cX0_readNumbers 61 = .ok (.bipush 30, 2) := by decide +kernel
theorem dX0_readNumbers_63 : decode cX0_readNumbers 63 = .ok (.if_icmp .ge 13, 3) := by decide +kernel
theorem dX0_readNumbers_66 : decode cX0_readNumbers 66 = .ok (.iinc 1 1, 3) := by decide +kernel
theorem dX0_readNumbers_69 : decode cX0_readNumbers 69 = .ok (.aload_n 0, 1) := by decide +kernel
theorem dX0_readNumbers_70 : decode cX0_readNumbers 70 = .ok (.getfield 15, 3) := by decide +kernel
theorem dX0_readNumbers_73 : decode cX0_readNumbers 73 = .ok (.iload_n 1, 1) := by decide +kernel
theorem dX0_readNumbers_74 : decode cX0_readNumbers 74 = .ok (.iconst 0, 1) := by decide +kernel
theorem dX0_readNumbers_75 : decode cX0_readNumbers 75 = .ok (.iastore, 1) := by decide +kernel
theorem dX0_readNumbers_76 : decode cX0_readNumbers 76 = .ok (.iinc 2 1, 3) := by decide +kernel
theorem dX0_readNumbers_79 : decode cX0_readNumbers 79 = .ok (.goto (-68), 3) := by decide +kernel
theorem dX0_readNumbers_82 : decode cX0_readNumbers 82 = .ok (.iload_n 1, 1) := by decide +kernel
theorem dX0_readNumbers_83 : decode cX0_readNumbers 83 = .ok (.iconst 1, 1) := by decide +kernel
theorem dX0_readNumbers_84 : decode cX0_readNumbers 84 = .ok (.iadd, 1) := by decide +kernel
theorem dX0_readNumbers_85 : decode cX0_readNumbers 85 = .ok (.ireturn, 1) := by decide +kernel
theorem dX0_greatestNumber_0 : decode cX0_greatestNumber 0 = .ok (.iconst 0, 1) := by decide +kernel
theorem dX0_greatestNumber_1 : decode cX0_greatestNumber 1 = .ok (.istore_n 2, 1) := by decide +kernel
theorem dX0_greatestNumber_2 : decode cX0_greatestNumber 2 = .ok (.iconst 0, 1) := by decide +kernel
theorem dX0_greatestNumber_3 : decode cX0_greatestNumber 3 = .ok (.istore_n 3, 1) := by decide +kernel
theorem dX0_greatestNumber_4 : decode cX0_greatestNumber 4 = .ok (.iload_n 3, 1) := by decide +kernel
theorem dX0_greatestNumber_5 : decode cX0_greatestNumber 5 = .ok (.iload_n 1, 1) := by decide +kernel
theorem dX0_greatestNumber_6 : decode cX0_greatestNumber 6 = .ok (.if_icmp .ge 20, 3) := by decide +kernel
theorem dX0_greatestNumber_9 : decode cX0_greatestNumber 9 = .ok (.iload_n 2, 1) := by decide +kernel
theorem dX0_greatestNumber_10 : decode cX0_greatestNumber 10 = .ok (.aload_n 0, 1) := by decide +kernel
theorem dX0_greatestNumber_11 : decode cX0_greatestNumber 11 = .ok (.getfield 15, 3) := by decide +kernel
theorem dX0_greatestNumber_14 : decode cX0_greatestNumber 14 = .ok (.iload_n 3, 1) := by decide +kernel
theorem dX0_greatestNumber_15 : decode cX0_greatestNumber 15 = .ok (.iaload, 1) := by decide +kernel
theorem dX0_greatestNumber_16 : decode cX0_greatestNumber 16 = .ok (.invokestatic 27, 3) := by decide +kernel
theorem dX0_greatestNumber_19 : decode cX0_greatestNumber 19 = .ok (.istore_n 2, 1) := by decide +kernel
theorem dX0_greatestNumber_20 : decode cX0_greatestNumber 20 = .ok (.iinc 3 1, 3) := by decide +kernel
theorem dX0_greatestNumber_23 : decode cX0_greatestNumber 23 = .ok (.goto (-19), 3) := by decide +kernel
theorem dX0_greatestNumber_26 : decode cX0_greatestNumber 26 = .ok (.iload_n 2, 1) := by decide +kernel
theorem dX0_greatestNumber_27 : decode cX0_greatestNumber 27 = .ok (.ireturn, 1) := by decide +kernel
theorem dX0_isDigit_0 : decode cX0_isDigit 0 = .ok (.iload_n 0, 1) := by decide +kernel
theorem dX0_isDigit_1 : decode cX0_isDigit 1 = .ok (.bipush 48, 2) := by decide +kernel
theorem dX0_isDigit_3 : decode cX0_isDigit 3 = .ok (.if_icmp .lt 13, 3) := by decide +kernel
theorem dX0_isDigit_6 : decode cX0_isDigit 6 = .ok (.iload_n 0, 1) := by decide +kernel
theorem dX0_isDigit_7 : decode cX0_isDigit 7 = .ok (.bipush 57, 2) := by decide +kernel
theorem dX0_isDigit_9 : decode cX0_isDigit 9 = .ok (.if_icmp .gt 7, 3) := by decide +kernel
theorem dX0_isDigit_12 : decode cX0_isDigit 12 = .ok (.iconst 1, 1) := by decide +kernel
theorem dX0_isDigit_13 : decode cX0_isDigit 13 = .ok (.goto 4, 3) := by decide +kernel
theorem dX0_isDigit_16 : decode cX0_isDigit 16 = .ok (.iconst 0, 1) := by decide +kernel
theorem dX0_isDigit_17 : decode cX0_isDigit 17 = .ok (.ireturn, 1) := by decide +kernel
theorem dX1_init_0 : decode cX1_init 0 = .ok (.aload_n 0, 1) := by decide +kernel
theorem dX1_init_1 : decode cX1_init 1 = .ok (.invokespecial 3, 3) := by decide +kernel
theorem dX1_init_4 : decode cX1_init 4 = .ok (.aload_n 0, 1) := by decide +kernel
theorem dX1_init_5 : decode cX1_init 5 = .ok (.bipush (-5), 2) := by decide +kernel
theorem dX1_init_7 : decode cX1_init 7 = .ok (.putfield 9, 3) := by decide +kernel
theorem dX1_init_10 : decode cX1_init 10 = .ok (.return_, 1) := by decide +kernel
theorem dX1_copyFrom_0 : decode cX1_copyFrom 0 = .ok (.aload_n 0, 1) := by decide +kernel
theorem dX1_copyFrom_1 : decode cX1_copyFrom 1 = .ok (.aload_n 1, 1) := by decide +kernel
theorem dX1_copyFrom_2 : decode cX1_copyFrom 2 = .ok (.getfield 15, 3) := by decide +kernel
theorem dX1_copyFrom_5 : decode cX1_copyFrom 5 = .ok (.putfield 15, 3) := by decide +kernel
theorem dX1_copyFrom_8 : decode cX1_copyFrom 8 = .ok (.aload_n 0, 1) := by decide +kernel
theorem dX1_copyFrom_9 : decode cX1_copyFrom 9 = .ok (.aload_n 1, 1) := by decide +kernel
theorem dX1_copyFrom_10 : decode cX1_copyFrom 10 = .ok (.getfield 18, 3) := by decide +kernel
theorem dX1_copyFrom_13 : decode cX1_copyFrom 13 = .ok (.putfield 18, 3) := by decide +kernel
theorem dX1_copyFrom_16 : decode cX1_copyFrom 16 = .ok (.aload_n 0, 1) := by decide +kernel
theorem dX1_copyFrom_17 : decode cX1_copyFrom 17 = .ok (.aload_n 1, 1) := by decide +kernel
theorem dX1_copyFrom_18 : decode cX1_copyFrom 18 = .ok (.getfield 9, 3) := by decide +kernel
theorem dX1_copyFrom_21 : decode cX1_copyFrom 21 = .ok (.putfield 9, 3) := by decide +kernel
theorem dX1_copyFrom_24 : decode cX1_copyFrom 24 = .ok (.aload_n 0, 1) := by decide +kernel
theorem dX1_copyFrom_25 : decode cX1_copyFrom 25 = .ok (.aload_n 1, 1) := by decide +kernel
theorem dX1_copyFrom_26 : decode cX1_copyFrom 26 = .ok (.getfield 21, 3) := by decide +kernel
theorem dX1_copyFrom_29 : decode cX1_copyFrom 29 = .ok (.putfield 21, 3) := by decide +kernel
theorem dX1_copyFrom_32 : decode cX1_copyFrom 32 = .ok (.aload_n 0, 1) := by decide +kernel
theorem dX1_copyFrom_33 : decode cX1_copyFrom 33 = .ok (.aload_n 1, 1) := by decide +kernel
theorem dX1_copyFrom_34 : decode cX1_copyFrom 34 = .ok (.getfield 24, 3) := by decide +kernel
theorem dX1_copyFrom_37 : decode cX1_copyFrom 37 = .ok (.putfield 24, 3) := by decide +kernel
theorem dX1_copyFrom_40 : decode cX1_copyFrom 40 = .ok (.aload_n 0, 1) := by decide +kernel
theorem dX1_copyFrom_41 : decode cX1_copyFrom 41 = .ok (.aload_n 1, 1) := by decide +kernel
theorem dX1_copyFrom_42 : decode cX1_copyFrom 42 = .ok (.getfield 27, 3) := by decide +kernel
theorem dX1_copyFrom_45 : decode cX1_copyFrom 45 = .ok (.putfield 27, 3) := by decide +kernel
theorem dX1_copyFrom_48 : decode cX1_copyFrom 48 = .ok (.return_, 1) := by decide +kernel
theorem dX1_isOnDuty_0 : decode cX1_isOnDuty 0 = .ok (.aload_n 0, 1) := by decide +kernel
theorem dX1_isOnDuty_1 : decode cX1_isOnDuty 1 = .ok (.getfield 9, 3) := by decide +kernel
theorem dX1_isOnDuty_4 : decode cX1_isOnDuty 4 = .ok (.bipush (-5), 2) := by decide +kernel
theorem dX1_isOnDuty_6 : decode cX1_isOnDuty 6 = .ok (.if_icmp .eq 7, 3) := by decide +kernel
theorem dX1_isOnDuty_9 : decode cX1_isOnDuty 9 = .ok (.iconst 1, 1) := by decide +kernel
theorem dX1_isOnDuty_10 : decode cX1_isOnDuty 10 = .ok (.goto 4, 3) := by decide +kernel
theorem dX1_isOnDuty_13 : decode cX1_isOnDuty 13 = .ok (.iconst 0, 1) := by decide +kernel
theorem dX1_isOnDuty_14 : decode cX1_isOnDuty 14 = .ok (.ireturn, 1) := by decide +kernel
theorem dX1_rests_0 : decode cX1_rests 0 = .ok (.aload_n 0, 1) := by decide +kernel
theorem dX1_rests_1 : decode cX1_rests 1 = .ok (.getfield 27, 3) := by decide +kernel
theorem dX1_rests_4 : decode cX1_rests 4 = .ok (.ifCond .le 7, 3) := by decide +kernel
theorem dX1_rests_7 : decode cX1_rests 7 = .ok (.iconst 1, 1) := by decide +kernel
theorem dX1_rests_8 : decode cX1_rests 8 = .ok (.goto 4, 3) := by decide +kernel
theorem dX1_rests_11 : decode cX1_rests 11 = .ok (.iconst 0, 1) := by decide +kernel
theorem dX1_rests_12 : decode cX1_rests 12 = .ok (.ireturn, 1) := by decide +kernel
theorem dX1_isFree_0 : decode cX1_isFree 0 = .ok (.aload_n 0, 1) := by decide +kernel
theorem dX1_isFree_1 : decode cX1_isFree 1 = .ok (.invokevirtual 30, 3) := by decide +kernel
theorem dX1_isFree_4 : decode cX1_isFree 4 = .ok (.ifCond .ne 14, 3) := by decide +kernel
theorem dX1_isFree_7 : decode cX1_isFree 7 = .ok (.aload_n 0, 1) := by decide +kernel
theorem dX1_isFree_8 : decode cX1_isFree 8 = .ok (.invokevirtual 34, 3) := by decide +kernel
theorem dX1_isFree_11 : decode cX1_isFree 11 = .ok (.ifCond .ne 7, 3) := by decide +kernel
theorem dX1_isFree_14 : decode cX1_isFree 14 = .ok (.iconst 1, 1) := by decide +kernel
theorem dX1_isFree_15 : decode cX1_isFree 15 = .ok (.goto 4, 3) := by decide +kernel
theorem dX1_isFree_18 : decode cX1_isFree 18 = .ok (.iconst 0, 1) := by decide +kernel
theorem dX1_isFree_19 : decode cX1_isFree 19 = .ok (.ireturn, 1) := by decide +kernel
theorem dX1_mustLeave_0 : decode cX1_mustLeave 0 = .ok (.aload_n 0, 1) := by decide +kernel
theorem dX1_mustLeave_1 : decode cX1_mustLeave 1 = .ok (.invokevirtual 30, 3) := by decide +kernel
theorem dX1_mustLeave_4 : decode cX1_mustLeave 4 = .ok (.ifCond .eq 18, 3) := by decide +kernel
theorem dX1_mustLeave_7 : decode cX1_mustLeave 7 = .ok (.aload_n 0, 1) := by decide +kernel
theorem dX1_mustLeave_8 : decode cX1_mustLeave 8 = .ok (.getfield 21, 3) := by decide +kernel
theorem dX1_mustLeave_11 : decode cX1_mustLeave 11 = .ok (.aload_n 0, 1) := by decide +kernel
theorem dX1_mustLeave_12 : decode cX1_mustLeave 12 = .ok (.getfield 18, 3) := by decide +kernel
theorem dX1_mustLeave_15 : decode cX1_mustLeave 15 = .ok (.if_icmp .lt 7, 3) := by decide +kernel
theorem dX1_mustLeave_18 : decode cX1_mustLeave 18 = .ok (.iconst 1, 1) := by decide +kernel
theorem dX1_mustLeave_19 : decode cX1_mustLeave 19 = .ok (.goto 4, 3) := by decide +kernel
theorem dX1_mustLeave_22 : decode cX1_mustLeave 22 = .ok (.iconst 0, 1) := by decide +kernel
theorem dX1_mustLeave_23 : decode cX1_mustLeave 23 = .ok (.ireturn, 1) := by decide +kernel
theorem dX1_comeTo_0 : decode cX1_comeTo 0 = .ok (.aload_n 0, 1) := by decide +kernel
theorem dX1_comeTo_1 : decode cX1_comeTo 1 = .ok (.iload_n 1, 1) := by decide +kernel
theorem dX1_comeTo_2 : decode cX1_comeTo 2 = .ok (.putfield 9, 3) := by decide +kernel
theorem dX1_comeTo_5 : decode cX1_comeTo 5 = .ok (.return_, 1) := by decide +kernel
theorem dX1_leaveDuty_0 : decode cX1_leaveDuty 0 = .ok (.aload_n 0, 1) := by decide +kernel
theorem dX1_leaveDuty_1 : decode cX1_leaveDuty 1 = .ok (.bipush (-5), 2) := by decide +kernel
theorem dX1_leaveDuty_3 : decode cX1_leaveDuty 3 = .ok (.putfield 9, 3) := by decide +kernel
theorem dX1_leaveDuty_6 : decode cX1_leaveDuty 6 = .ok (.aload_n 0, 1) := by decide +kernel
theorem dX1_leaveDuty_7 : decode cX1_leaveDuty 7 = .ok (.iconst 0, 1) := by decide +kernel
theorem dX1_leaveDuty_8 : decode cX1_leaveDuty 8 = .ok (.putfield 21, 3) := by decide +kernel
theorem dX1_leaveDuty_11 : decode cX1_leaveDuty 11 = .ok (.aload_n 0, 1) := by decide +kernel
theorem dX1_leaveDuty_12 : decode cX1_leaveDuty 12 = .ok (.iload_n 1, 1) := by decide +kernel
theorem dX1_leaveDuty_13 : decode cX1_leaveDuty 13 = .ok (.putfield 27, 3) := by decide +kernel
theorem dX1_leaveDuty_16 : decode cX1_leaveDuty 16 = .ok (.return_, 1) := by decide +kernel
theorem dX1_endHour_0 : decode cX1_endHour 0 = .ok (.aload_n 0, 1) := by decide +kernel
theorem dX1_endHour_1 : decode cX1_endHour 1 = .ok (.invokevirtual 30, 3) := by decide +kernel
theorem dX1_endHour_4 : decode cX1_endHour 4 = .ok (.ifCond .eq 23, 3) := by decide +kernel
theorem dX1_endHour_7 : decode cX1_endHour 7 = .ok (.aload_n 0, 1) := by decide +kernel
theorem dX1_endHour_8 : decode cX1_endHour 8 = .ok (.dup, 1) := by decide +kernel
theorem dX1_endHour_9 : decode cX1_endHour 9 = .ok (.getfield 24, 3) := by decide +kernel
theorem dX1_endHour_12 : decode cX1_endHour 12 = .ok (.iconst 1, 1) := by decide +kernel
theorem dX1_endHour_13 : decode cX1_endHour 13 = .ok (.iadd, 1) := by decide +kernel
theorem dX1_endHour_14 : decode cX1_endHour 14 = .ok (.putfield 24, 3) := by decide +kernel
theorem dX1_endHour_17 : decode cX1_endHour 17 = .ok (.aload_n 0, 1) := by decide +kernel
theorem dX1_endHour_18 : decode cX1_endHour 18 = .ok (.dup, 1) := by decide +kernel
theorem dX1_endHour_19 : decode cX1_endHour 19 = .ok (.getfield 21, 3) := by decide +kernel
theorem dX1_endHour_22 : decode cX1_endHour 22 = .ok (.iconst 1, 1) := by decide +kernel
theorem dX1_endHour_23 : decode cX1_endHour 23 = .ok (.iadd, 1) := by decide +kernel
theorem dX1_endHour_24 : decode cX1_endHour 24 = .ok (.putfield 21, 3) := by decide +kernel
theorem dX1_endHour_27 : decode cX1_endHour 27 = .ok (.aload_n 0, 1) := by decide +kernel
theorem dX1_endHour_28 : decode cX1_endHour 28 = .ok (.invokevirtual 34, 3) := by decide +kernel
theorem dX1_endHour_31 : decode cX1_endHour 31 = .ok (.ifCond .eq 13, 3) := by decide +kernel
theorem dX1_endHour_34 : decode cX1_endHour 34 = .ok (.aload_n 0, 1) := by decide +kernel
theorem dX1_endHour_35 : decode cX1_endHour 35 = .ok (.dup, 1) := by decide +kernel
theorem dX1_endHour_36 : decode cX1_endHour 36 = .ok (.getfield 27, 3) := by decide +kernel
theorem dX1_endHour_39 : decode cX1_endHour 39 = .ok (.iconst 1, 1) := by decide +kernel
theorem dX1_endHour_40 : decode cX1_endHour 40 = .ok (.isub, 1) := by decide +kernel
theorem dX1_endHour_41 : decode cX1_endHour 41 = .ok (.putfield 27, 3) := by decide +kernel
theorem dX1_endHour_44 : decode cX1_endHour 44 = .ok (.return_, 1) := by decide +kernel
theorem dX2_init_0 : decode cX2_init 0 = .ok (.aload_n 0, 1) := by decide +kernel
theorem dX2_init_1 : decode cX2_init 1 = .ok (.invokespecial 3, 3) := by decide +kernel
theorem dX2_init_4 : decode cX2_init 4 = .ok (.aload_n 0, 1) := by decide +kernel
theorem dX2_init_5 : decode cX2_init 5 = .ok (.bipush 6, 2) := by decide +kernel
theorem dX2_init_7 : decode cX2_init 7 = .ok (.anewarray 9, 3) := by decide +kernel
theorem dX2_init_10 : decode cX2_init 10 = .ok (.putfield 11, 3) := by decide +kernel
theorem dX2_init_13 : decode cX2_init 13 = .ok (.iconst 0, 1) := by decide +kernel
theorem dX2_init_14 : decode cX2_init 14 = .ok (.istore_n 1, 1) := by decide +kernel
theorem dX2_init_15 : decode cX2_init 15 = .ok (.iload_n 1, 1) := by decide +kernel
theorem dX2_init_16 : decode cX2_init 16 = .ok (.bipush 6, 2) := by decide +kernel
theorem dX2_init_18 : decode cX2_init 18 = .ok (.if_icmp .ge 22, 3) := by decide +kernel
theorem dX2_init_21 : decode cX2_init 21 = .ok (.aload_n 0, 1) := by decide +kernel
theorem dX2_init_22 : decode cX2_init 22 = .ok (.getfield 11, 3) := by decide +kernel
theorem dX2_init_25 : decode cX2_init 25 = .ok (.iload_n 1, 1) := by decide +kernel
theorem dX2_init_26 : decode cX2_init 26 = .ok (.new 9, 3) := by decide +kernel
theorem dX2_init_29 : decode cX2_init 29 = .ok (.dup, 1) := by decide +kernel
theorem dX2_init_30 : decode cX2_init 30 = .ok (.invokespecial 17, 3) := by decide +kernel
theorem dX2_init_33 : decode cX2_init 33 = .ok (.aastore, 1) := by decide +kernel
theorem dX2_init_34 : decode cX2_init 34 = .ok (.iinc 1 1, 3) := by decide +kernel
theorem dX2_init_37 : decode cX2_init 37 = .ok (.goto (-22), 3) := by decide +kernel
theorem dX2_init_40 : decode cX2_init 40 = .ok (.aload_n 0, 1) := by decide +kernel
theorem dX2_init_41 : decode cX2_init 41 = .ok (.bipush 12, 2) := by decide +kernel
theorem dX2_init_43 : decode cX2_init 43 = .ok (.anewarray 18, 3) := by decide +kernel
theorem dX2_init_46 : decode cX2_init 46 = .ok (.putfield 20, 3) := by decide +kernel
theorem dX2_init_49 : decode cX2_init 49 = .ok (.iconst 0, 1) := by decide +kernel
theorem dX2_init_50 : decode cX2_init 50 = .ok (.istore_n 1, 1) := by decide +kernel
theorem dX2_init_51 : decode cX2_init 51 = .ok (.iload_n 1, 1) := by decide +kernel
theorem dX2_init_52 : decode cX2_init 52 = .ok (.bipush 12, 2) := by decide +kernel
theorem dX2_init_54 : decode cX2_init 54 = .ok (.if_icmp .ge 22, 3) := by decide +kernel
theorem dX2_init_57 : decode cX2_init 57 = .ok (.aload_n 0, 1) := by decide +kernel
theorem dX2_init_58 : decode cX2_init 58 = .ok (.getfield 20, 3) := by decide +kernel
theorem dX2_init_61 : decode cX2_init 61 = .ok (.iload_n 1, 1) := by decide +kernel
theorem dX2_init_62 : decode cX2_init 62 = .ok (.new 18, 3) := by decide +kernel
theorem dX2_init_65 : decode cX2_init 65 = .ok (.dup, 1) := by decide +kernel
theorem dX2_init_66 : decode cX2_init 66 = .ok (.invokespecial 24, 3) := by decide +kernel
theorem dX2_init_69 : decode cX2_init 69 = .ok (.aastore, 1) := by decide +kernel
theorem dX2_init_70 : decode cX2_init 70 = .ok (.iinc 1 1, 3) := by decide +kernel
theorem dX2_init_73 : decode cX2_init 73 = .ok (.goto (-22), 3) := by decide +kernel
theorem dX2_init_76 : decode cX2_init 76 = .ok (.return_, 1) := by decide +kernel
theorem dX2_copyFrom_0 : decode cX2_copyFrom 0 = .ok (.aload_n 0, 1) := by decide +kernel
theorem dX2_copyFrom_1 : decode cX2_copyFrom 1 = .ok (.aload_n 1, 1) := by decide +kernel
theorem dX2_copyFrom_2 : decode cX2_copyFrom 2 = .ok (.getfield 25, 3) := by decide +kernel
theorem dX2_copyFrom_5 : decode cX2_copyFrom 5 = .ok (.putfield 25, 3) := by decide +kernel
theorem dX2_copyFrom_8 : decode cX2_copyFrom 8 = .ok (.aload_n 0, 1) := by decide +kernel
theorem dX2_copyFrom_9 : decode cX2_copyFrom 9 = .ok (.aload_n 1, 1) := by decide +kernel
theorem dX2_copyFrom_10 : decode cX2_copyFrom 10 = .ok (.getfield 29, 3) := by decide +kernel
theorem dX2_copyFrom_13 : decode cX2_copyFrom 13 = .ok (.putfield 29, 3) := by decide +kernel
theorem dX2_copyFrom_16 : decode cX2_copyFrom 16 = .ok (.aload_n 0, 1) := by decide +kernel
theorem dX2_copyFrom_17 : decode cX2_copyFrom 17 = .ok (.aload_n 1, 1) := by decide +kernel
theorem dX2_copyFrom_18 : decode cX2_copyFrom 18 = .ok (.getfield 32, 3) := by decide +kernel
theorem dX2_copyFrom_21 : decode cX2_copyFrom 21 = .ok (.putfield 32, 3) := by decide +kernel
theorem dX2_copyFrom_24 : decode cX2_copyFrom 24 = .ok (.iconst 0, 1) := by decide +kernel
theorem dX2_copyFrom_25 : decode cX2_copyFrom 25 = .ok (.istore_n 2, 1) := by decide +kernel
theorem dX2_copyFrom_26 : decode cX2_copyFrom 26 = .ok (.iload_n 2, 1) := by decide +kernel
theorem dX2_copyFrom_27 : decode cX2_copyFrom 27 = .ok (.bipush 6, 2) := by decide +kernel
theorem dX2_copyFrom_29 : decode cX2_copyFrom 29 = .ok (.if_icmp .ge 24, 3) := by decide +kernel
theorem dX2_copyFrom_32 : decode cX2_copyFrom 32 = .ok (.aload_n 0, 1) := by decide +kernel
theorem dX2_copyFrom_33 : decode cX2_copyFrom 33 = .ok (.getfield 11, 3) := by decide +kernel
theorem dX2_copyFrom_36 : decode cX2_copyFrom 36 = .ok (.iload_n 2, 1) := by decide +kernel
theorem dX2_copyFrom_37 : decode cX2_copyFrom 37 = .ok (.aaload, 1) := by decide +kernel
theorem dX2_copyFrom_38 : decode cX2_copyFrom 38 = .ok (.aload_n 1, 1) := by decide +kernel
theorem dX2_copyFrom_39 : decode cX2_copyFrom 39 = .ok (.getfield 11, 3) := by decide +kernel
theorem dX2_copyFrom_42 : decode cX2_copyFrom 42 = .ok (.iload_n 2, 1) := by decide +kernel
theorem dX2_copyFrom_43 : decode cX2_copyFrom 43 = .ok (.aaload, 1) := by decide +kernel
theorem dX2_copyFrom_44 : decode cX2_copyFrom 44 = .ok (.invokevirtual 35, 3) := by decide +kernel
theorem dX2_copyFrom_47 : decode cX2_copyFrom 47 = .ok (.iinc 2 1, 3) := by decide +kernel
theorem dX2_copyFrom_50 : decode cX2_copyFrom 50 = .ok (.goto (-24), 3) := by decide +kernel
theorem dX2_copyFrom_53 : decode cX2_copyFrom 53 = .ok (.iconst 0, 1) := by decide +kernel
theorem dX2_copyFrom_54 : decode cX2_copyFrom 54 = .ok (.istore_n 2, 1) := by decide +kernel
theorem dX2_copyFrom_55 : decode cX2_copyFrom 55 = .ok (.iload_n 2, 1) := by decide +kernel
theorem dX2_copyFrom_56 : decode cX2_copyFrom 56 = .ok (.bipush 12, 2) := by decide +kernel
theorem dX2_copyFrom_58 : decode cX2_copyFrom 58 = .ok (.if_icmp .ge 24, 3) := by decide +kernel
theorem dX2_copyFrom_61 : decode cX2_copyFrom 61 = .ok (.aload_n 0, 1) := by decide +kernel
theorem dX2_copyFrom_62 : decode cX2_copyFrom 62 = .ok (.getfield 20, 3) := by decide +kernel
theorem dX2_copyFrom_65 : decode cX2_copyFrom 65 = .ok (.iload_n 2, 1) := by decide +kernel
theorem dX2_copyFrom_66 : decode cX2_copyFrom 66 = .ok (.aaload, 1) := by decide +kernel
theorem dX2_copyFrom_67 : decode cX2_copyFrom 67 = .ok (.aload_n 1, 1) := by decide +kernel
theorem dX2_copyFrom_68 : decode cX2_copyFrom 68 = .ok (.getfield 20, 3) := by decide +kernel
theorem dX2_copyFrom_71 : decode cX2_copyFrom 71 = .ok (.iload_n 2, 1) := by decide +kernel
theorem dX2_copyFrom_72 : decode cX2_copyFrom 72 = .ok (.aaload, 1) := by decide +kernel
theorem dX2_copyFrom_73 : decode cX2_copyFrom 73 = .ok (.invokevirtual 39, 3) := by decide +kernel
theorem dX2_copyFrom_76 : decode cX2_copyFrom 76 = .ok (.iinc 2 1, 3) := by decide +kernel
theorem dX2_copyFrom_79 : decode cX2_copyFrom 79 = .ok (.goto (-24), 3) := by decide +kernel
theorem dX2_copyFrom_82 : decode cX2_copyFrom 82 = .ok (.return_, 1) := by decide +kernel
theorem dX2_hasStation_0 : decode cX2_hasStation 0 = .ok (.iload_n 1, 1) := by decide +kernel
theorem dX2_hasStation_1 : decode cX2_hasStation 1 = .ok (.ifCond .lt 15, 3) := by decide +kernel
theorem dX2_hasStation_4 : decode cX2_hasStation 4 = .ok (.iload_n 1, 1) := by decide +kernel
theorem dX2_hasStation_5 : decode cX2_hasStation 5 = .ok (.aload_n 0, 1) := by decide +kernel
theorem dX2_hasStation_6 : decode cX2_hasStation 6 = .ok (.getfield 29, 3) := by decide +kernel
theorem dX2_hasStation_9 : decode cX2_hasStation 9 = .ok (.if_icmp .ge 7, 3) := by decide +kernel
theorem dX2_hasStation_12 : decode cX2_hasStation 12 = .ok (.iconst 1, 1) := by decide +kernel
theorem dX2_hasStation_13 : decode cX2_hasStation 13 = .ok (.goto 4, 3) := by decide +kernel
theorem dX2_hasStation_16 : decode cX2_hasStation 16 = .ok (.iconst 0, 1) := by decide +kernel
theorem dX2_hasStation_17 : decode cX2_hasStation 17 = .ok (.ireturn, 1) := by decide +kernel
theorem dX2_hasClerk_0 : decode cX2_hasClerk 0 = .ok (.iload_n 1, 1) := by decide +kernel
theorem dX2_hasClerk_1 : decode cX2_hasClerk 1 = .ok (.ifCond .lt 15, 3) := by decide +kernel
theorem dX2_hasClerk_4 : decode cX2_hasClerk 4 = .ok (.iload_n 1, 1) := by decide +kernel
theorem dX2_hasClerk_5 : decode cX2_hasClerk 5 = .ok (.aload_n 0, 1) := by decide +kernel
theorem dX2_hasClerk_6 : decode cX2_hasClerk 6 = .ok (.getfield 32, 3) := by decide +kernel
theorem dX2_hasClerk_9 : decode cX2_hasClerk 9 = .ok (.if_icmp .ge 7, 3) := by decide +kernel
theorem dX2_hasClerk_12 : decode cX2_hasClerk 12 = .ok (.iconst 1, 1) := by decide +kernel
theorem dX2_hasClerk_13 : decode cX2_hasClerk 13 = .ok (.goto 4, 3) := by decide +kernel
theorem dX2_hasClerk_16 : decode cX2_hasClerk 16 = .ok (.iconst 0, 1) := by decide +kernel
theorem dX2_hasClerk_17 : decode cX2_hasClerk 17 = .ok (.ireturn, 1) := by decide +kernel
theorem dX2_engageClerk_0 : decode cX2_engageClerk 0 = .ok (.aload_n 0, 1) := by decide +kernel
theorem dX2_engageClerk_1 : decode cX2_engageClerk 1 = .ok (.getfield 20, 3) := by decide +kernel
theorem dX2_engageClerk_4 : decode cX2_engageClerk 4 = .ok (.aload_n 0, 1) := by decide +kernel
theorem dX2_engageClerk_5 : decode cX2_engageClerk 5 = .ok (.getfield 32, 3) := by decide +kernel
theorem dX2_engageClerk_8 : decode cX2_engageClerk 8 = .ok (.aaload, 1) := by decide +kernel
theorem dX2_engageClerk_9 : decode cX2_engageClerk 9 = .ok (.iload_n 1, 1) := by decide +kernel
theorem dX2_engageClerk_10 : decode cX2_engageClerk 10 = .ok (.putfield 42, 3) := by decide +kernel
theorem dX2_engageClerk_13 : decode cX2_engageClerk 13 = .ok (.aload_n 0, 1) := by decide +kernel
theorem dX2_engageClerk_14 : decode cX2_engageClerk 14 = .ok (.getfield 20, 3) := by decide +kernel
theorem dX2_engageClerk_17 : decode cX2_engageClerk 17 = .ok (.aload_n 0, 1) := by decide +kernel
theorem dX2_engageClerk_18 : decode cX2_engageClerk 18 = .ok (.getfield 32, 3) := by decide +kernel
theorem dX2_engageClerk_21 : decode cX2_engageClerk 21 = .ok (.aaload, 1) := by decide +kernel
theorem dX2_engageClerk_22 : decode cX2_engageClerk 22 = .ok (.iload_n 2, 1) := by decide +kernel
theorem dX2_engageClerk_23 : decode cX2_engageClerk 23 = .ok (.putfield 45, 3) := by decide +kernel
theorem dX2_engageClerk_26 : decode cX2_engageClerk 26 = .ok (.aload_n 0, 1) := by decide +kernel
theorem dX2_engageClerk_27 : decode cX2_engageClerk 27 = .ok (.dup, 1) := by decide +kernel
theorem dX2_engageClerk_28 : decode cX2_engageClerk 28 = .ok (.getfield 32, 3) := by decide +kernel
theorem dX2_engageClerk_31 : decode cX2_engageClerk 31 = .ok (.iconst 1, 1) := by decide +kernel
theorem dX2_engageClerk_32 : decode cX2_engageClerk 32 = .ok (.iadd, 1) := by decide +kernel
theorem dX2_engageClerk_33 : decode cX2_engageClerk 33 = .ok (.putfield 32, 3) := by decide +kernel
theorem dX2_engageClerk_36 : decode cX2_engageClerk 36 = .ok (.aload_n 0, 1) := by decide +kernel
theorem dX2_engageClerk_37 : decode cX2_engageClerk 37 = .ok (.getfield 32, 3) := by decide +kernel
theorem dX2_engageClerk_40 : decode cX2_engageClerk 40 = .ok (.iconst 1, 1) := by decide +kernel
theorem dX2_engageClerk_41 : decode cX2_engageClerk 41 = .ok (.isub, 1) := by decide +kernel
theorem dX2_engageClerk_42 : decode cX2_engageClerk 42 = .ok (.ireturn, 1) := by decide +kernel
theorem dX2_letHoursPass_0 : decode cX2_letHoursPass 0 = .ok (.iconst 0, 1) := by decide +kernel
theorem dX2_letHoursPass_1 : decode cX2_letHoursPass 1 = .ok (.istore_n 2, 1) := by decide +kernel
theorem dX2_letHoursPass_2 : decode cX2_letHoursPass 2 = .ok (.iconst 0, 1) := by decide +kernel
theorem dX2_letHoursPass_3 : decode cX2_letHoursPass 3 = .ok (.istore_n 3, 1) := by decide +kernel
theorem dX2_letHoursPass_4 : decode cX2_letHoursPass 4 = .ok (.iload_n 3, 1) := by decide +kernel
theorem dX2_letHoursPass_5 : decode cX2_letHoursPass 5 = .ok (.iload_n 1, 1) := by decide +kernel
theorem dX2_letHoursPass_6 : decode cX2_letHoursPass 6 = .ok (.if_icmp .ge 38, 3) := by decide +kernel
theorem dX2_letHoursPass_9 : decode cX2_letHoursPass 9 = .ok (.aload_n 0, 1) := by decide +kernel
theorem dX2_letHoursPass_10 : decode cX2_letHoursPass 10 = .ok (.invokevirtual 48, 3) := by decide +kernel
theorem dX2_letHoursPass_13 : decode cX2_letHoursPass 13 = .ok (.aload_n 0, 1) := by decide +kernel
theorem dX2_letHoursPass_14 : decode cX2_letHoursPass 14 = .ok (.invokevirtual 51, 3) := by decide +kernel
theorem dX2_letHoursPass_17 : decode cX2_letHoursPass 17 = .ok (.iload_n 2, 1) := by decide +kernel
theorem dX2_letHoursPass_18 : decode cX2_letHoursPass 18 = .ok (.aload_n 0, 1) := by decide +kernel
theorem dX2_letHoursPass_19 : decode cX2_letHoursPass 19 = .ok (.invokevirtual 54, 3) := by decide +kernel
theorem dX2_letHoursPass_22 : decode cX2_letHoursPass 22 = .ok (.iadd, 1) := by decide +kernel
theorem dX2_letHoursPass_23 : decode cX2_letHoursPass 23 = .ok (.istore_n 2, 1) := by decide +kernel
theorem dX2_letHoursPass_24 : decode cX2_letHoursPass 24 = .ok (.aload_n 0, 1) := by decide +kernel
theorem dX2_letHoursPass_25 : decode cX2_letHoursPass 25 = .ok (.invokevirtual 58, 3) := by decide +kernel
theorem dX2_letHoursPass_28 : decode cX2_letHoursPass 28 = .ok (.aload_n 0, 1) := by decide +kernel
theorem dX2_letHoursPass_29 : decode cX2_letHoursPass 29 = .ok (.dup, 1) := by decide +kernel
theorem dX2_letHoursPass_30 : decode cX2_letHoursPass 30 = .ok (.getfield 25, 3) := by decide +kernel
theorem dX2_letHoursPass_33 : decode cX2_letHoursPass 33 = .ok (.iconst 1, 1) := by decide +kernel
theorem dX2_letHoursPass_34 : decode cX2_letHoursPass 34 = .ok (.iadd, 1) := by decide +kernel
theorem dX2_letHoursPass_35 : decode cX2_letHoursPass 35 = .ok (.putfield 25, 3) := by decide +kernel
theorem dX2_letHoursPass_38 : decode cX2_letHoursPass 38 = .ok (.iinc 3 1, 3) := by decide +kernel
theorem dX2_letHoursPass_41 : decode cX2_letHoursPass 41 = .ok (.goto (-37), 3) := by decide +kernel
theorem dX2_letHoursPass_44 : decode cX2_letHoursPass 44 = .ok (.iload_n 2, 1) := by decide +kernel
theorem dX2_letHoursPass_45 : decode cX2_letHoursPass 45 = .ok (.ireturn, 1) := by decide +kernel
theorem dX2_letArrive_0 : decode cX2_letArrive 0 = .ok (.aload_n 0, 1) := by decide +kernel
theorem dX2_letArrive_1 : decode cX2_letArrive 1 = .ok (.getfield 25, 3) := by decide +kernel
theorem dX2_letArrive_4 : decode cX2_letArrive 4 = .ok (.bipush 15, 2) := by decide +kernel
theorem dX2_letArrive_6 : decode cX2_letArrive 6 = .ok (.if_icmp .lt 4, 3) := by decide +kernel
theorem dX2_letArrive_9 : decode cX2_letArrive 9 = .ok (.return_, 1) := by decide +kernel
theorem dX2_letArrive_10 : decode cX2_letArrive 10 = .ok (.iconst 0, 1) := by decide +kernel
theorem dX2_letArrive_11 : decode cX2_letArrive 11 = .ok (.istore_n 1, 1) := by decide +kernel
theorem dX2_letArrive_12 : decode cX2_letArrive 12 = .ok (.iload_n 1, 1) := by decide +kernel
theorem dX2_letArrive_13 : decode cX2_letArrive 13 = .ok (.aload_n 0, 1) := by decide +kernel
theorem dX2_letArrive_14 : decode cX2_letArrive 14 = .ok (.getfield 29, 3) := by decide +kernel
theorem dX2_letArrive_17 : decode cX2_letArrive 17 = .ok (.if_icmp .ge 37, 3) := by decide +kernel
theorem dX2_letArrive_20 : decode cX2_letArrive 20 = .ok (.aload_n 0, 1) := by decide +kernel
theorem dX2_letArrive_21 : decode cX2_letArrive 21 = .ok (.getfield 11, 3) := by decide +kernel
theorem dX2_letArrive_24 : decode cX2_letArrive 24 = .ok (.iload_n 1, 1) := by decide +kernel
theorem dX2_letArrive_25 : decode cX2_letArrive 25 = .ok (.aaload, 1) := by decide +kernel
theorem dX2_letArrive_26 : decode cX2_letArrive 26 = .ok (.dup, 1) := by decide +kernel
theorem dX2_letArrive_27 : decode cX2_letArrive 27 = .ok (.getfield 61, 3) := by decide +kernel
theorem dX2_letArrive_30 : decode cX2_letArrive 30 = .ok (.aload_n 0, 1) := by decide +kernel
theorem dX2_letArrive_31 : decode cX2_letArrive 31 = .ok (.getfield 11, 3) := by decide +kernel
theorem dX2_letArrive_34 : decode cX2_letArrive 34 = .ok (.iload_n 1, 1) := by decide +kernel
theorem dX2_letArrive_35 : decode cX2_letArrive 35 = .ok (.aaload, 1) := by decide +kernel
theorem dX2_letArrive_36 : decode cX2_letArrive 36 = .ok (.getfield 64, 3) := by decide +kernel
theorem dX2_letArrive_39 : decode cX2_letArrive 39 = .ok (.aload_n 0, 1) := by decide +kernel
theorem dX2_letArrive_40 : decode cX2_letArrive 40 = .ok (.getfield 25, 3) := by decide +kernel
theorem dX2_letArrive_43 : decode cX2_letArrive 43 = .ok (.iaload, 1) := by decide +kernel
theorem dX2_letArrive_44 : decode cX2_letArrive 44 = .ok (.iadd, 1) := by decide +kernel
theorem dX2_letArrive_45 : decode cX2_letArrive 45 = .ok (.putfield 61, 3) := by decide +kernel
theorem dX2_letArrive_48 : decode cX2_letArrive 48 = .ok (.iinc 1 1, 3) := by decide +kernel
theorem dX2_letArrive_51 : decode cX2_letArrive 51 = .ok (.goto (-39), 3) := by decide +kernel
theorem dX2_letArrive_54 : decode cX2_letArrive 54 = .ok (.return_, 1) := by decide +kernel
theorem dX2_changeClerks_0 : decode cX2_changeClerks 0 = .ok (.iconst 0, 1) := by decide +kernel
theorem dX2_changeClerks_1 : decode cX2_changeClerks 1 = .ok (.istore_n 1, 1) := by decide +kernel
theorem dX2_changeClerks_2 : decode cX2_changeClerks 2 = .ok (.iload_n 1, 1) := by decide +kernel
theorem dX2_changeClerks_3 : decode cX2_changeClerks 3 = .ok (.aload_n 0, 1) := by decide +kernel
theorem dX2_changeClerks_4 : decode cX2_changeClerks 4 = .ok (.getfield 32, 3) := by decide +kernel
theorem dX2_changeClerks_7 : decode cX2_changeClerks 7 = .ok (.if_icmp .ge 62, 3) := by decide +kernel
theorem dX2_changeClerks_10 : decode cX2_changeClerks 10 = .ok (.aload_n 0, 1) := by decide +kernel
theorem dX2_changeClerks_11 : decode cX2_changeClerks 11 = .ok (.getfield 20, 3) := by decide +kernel
theorem dX2_changeClerks_14 : decode cX2_changeClerks 14 = .ok (.iload_n 1, 1) := by decide +kernel
theorem dX2_changeClerks_15 : decode cX2_changeClerks 15 = .ok (.aaload, 1) := by decide +kernel
theorem dX2_changeClerks_16 : decode cX2_changeClerks 16 = .ok (.invokevirtual 68, 3) := by decide +kernel
theorem dX2_changeClerks_19 : decode cX2_changeClerks 19 = .ok (.ifCond .eq 44, 3) := by decide +kernel
theorem dX2_changeClerks_22 : decode cX2_changeClerks 22 = .ok (.aload_n 0, 1) := by decide +kernel
theorem dX2_changeClerks_23 : decode cX2_changeClerks 23 = .ok (.getfield 20, 3) := by decide +kernel
theorem dX2_changeClerks_26 : decode cX2_changeClerks 26 = .ok (.iload_n 1, 1) := by decide +kernel
theorem dX2_changeClerks_27 : decode cX2_changeClerks 27 = .ok (.aaload, 1) := by decide +kernel
theorem dX2_changeClerks_28 : decode cX2_changeClerks 28 = .ok (.getfield 72, 3) := by decide +kernel
theorem dX2_changeClerks_31 : decode cX2_changeClerks 31 = .ok (.istore_n 2, 1) := by decide +kernel
theorem dX2_changeClerks_32 : decode cX2_changeClerks 32 = .ok (.aload_n 0, 1) := by decide +kernel
theorem dX2_changeClerks_33 : decode cX2_changeClerks 33 = .ok (.getfield 20, 3) := by decide +kernel
theorem dX2_changeClerks_36 : decode cX2_changeClerks 36 = .ok (.iload_n 1, 1) := by decide +kernel
theorem dX2_changeClerks_37 : decode cX2_changeClerks 37 = .ok (.aaload, 1) := by decide +kernel
theorem dX2_changeClerks_38 : decode cX2_changeClerks 38 = .ok (.iconst 2, 1) := by decide +kernel
theorem dX2_changeClerks_39 : decode cX2_changeClerks 39 = .ok (.invokevirtual 75, 3) := by decide +kernel
theorem dX2_changeClerks_42 : decode cX2_changeClerks 42 = .ok (.aload_n 0, 1) := by decide +kernel
theorem dX2_changeClerks_43 : decode cX2_changeClerks 43 = .ok (.invokevirtual 79, 3) := by decide +kernel
theorem dX2_changeClerks_46 : decode cX2_changeClerks 46 = .ok (.istore_n 3, 1) := by decide +kernel
theorem dX2_changeClerks_47 : decode cX2_changeClerks 47 = .ok (.iload_n 3, 1) := by decide +kernel
theorem dX2_changeClerks_48 : decode cX2_changeClerks 48 = .ok (.bipush (-5), 2) := by decide +kernel
theorem dX2_changeClerks_50 : decode cX2_changeClerks 50 = .ok (.if_icmp .eq 13, 3) := by decide +kernel
theorem dX2_changeClerks_53 : decode cX2_changeClerks 53 = .ok (.aload_n 0, 1) := by decide +kernel
theorem dX2_changeClerks_54 : decode cX2_changeClerks 54 = .ok (.getfield 20, 3) := by decide +kernel
theorem dX2_changeClerks_57 : decode cX2_changeClerks 57 = .ok (.iload_n 3, 1) := by decide +kernel
theorem dX2_changeClerks_58 : decode cX2_changeClerks 58 = .ok (.aaload, 1) := by decide +kernel
theorem dX2_changeClerks_59 : decode cX2_changeClerks 59 = .ok (.iload_n 2, 1) := by decide +kernel
theorem dX2_changeClerks_60 : decode cX2_changeClerks 60 = .ok (.invokevirtual 82, 3) := by decide +kernel
theorem dX2_changeClerks_63 : decode cX2_changeClerks 63 = .ok (.iinc 1 1, 3) := by decide +kernel
theorem dX2_changeClerks_66 : decode cX2_changeClerks 66 = .ok (.goto (-64), 3) := by decide +kernel
theorem dX2_changeClerks_69 : decode cX2_changeClerks 69 = .ok (.return_, 1) := by decide +kernel
theorem dX2_serveQueues_0 : decode cX2_serveQueues 0 = .ok (.iconst 0, 1) := by decide +kernel
theorem dX2_serveQueues_1 : decode cX2_serveQueues 1 = .ok (.istore_n 1, 1) := by decide +kernel
theorem dX2_serveQueues_2 : decode cX2_serveQueues 2 = .ok (.iconst 0, 1) := by decide +kernel
theorem dX2_serveQueues_3 : decode cX2_serveQueues 3 = .ok (.istore_n 2, 1) := by decide +kernel
theorem dX2_serveQueues_4 : decode cX2_serveQueues 4 = .ok (.iload_n 2, 1) := by decide +kernel
theorem dX2_serveQueues_5 : decode cX2_serveQueues 5 = .ok (.aload_n 0, 1) := by decide +kernel
theorem dX2_serveQueues_6 : decode cX2_serveQueues 6 = .ok (.getfield 29, 3) := by decide +kernel
theorem dX2_serveQueues_9 : decode cX2_serveQueues 9 = .ok (.if_icmp .ge 26, 3) := by decide +kernel
theorem dX2_serveQueues_12 : decode cX2_serveQueues 12 = .ok (.iload_n 1, 1) := by decide +kernel
theorem dX2_serveQueues_13 : decode cX2_serveQueues 13 = .ok (.aload_n 0, 1) := by decide +kernel
theorem dX2_serveQueues_14 : decode cX2_serveQueues 14 = .ok (.getfield 11, 3) := by decide +kernel
theorem dX2_serveQueues_17 : decode cX2_serveQueues 17 = .ok (.iload_n 2, 1) := by decide +kernel
theorem dX2_serveQueues_18 : decode cX2_serveQueues 18 = .ok (.aaload, 1) := by decide +kernel
theorem dX2_serveQueues_19 : decode cX2_serveQueues 19 = .ok (.aload_n 0, 1) := by decide +kernel
theorem dX2_serveQueues_20 : decode cX2_serveQueues 20 = .ok (.iload_n 2, 1) := by decide +kernel
theorem dX2_serveQueues_21 : decode cX2_serveQueues 21 = .ok (.invokevirtual 85, 3) := by decide +kernel
theorem dX2_serveQueues_24 : decode cX2_serveQueues 24 = .ok (.invokevirtual 89, 3) := by decide +kernel
theorem dX2_serveQueues_27 : decode cX2_serveQueues 27 = .ok (.iadd, 1) := by decide +kernel
theorem dX2_serveQueues_28 : decode cX2_serveQueues 28 = .ok (.istore_n 1, 1) := by decide +kernel
theorem dX2_serveQueues_29 : decode cX2_serveQueues 29 = .ok (.iinc 2 1, 3) := by decide +kernel
theorem dX2_serveQueues_32 : decode cX2_serveQueues 32 = .ok (.goto (-28), 3) := by decide +kernel
theorem dX2_serveQueues_35 : decode cX2_serveQueues 35 = .ok (.iload_n 1, 1) := by decide +kernel
theorem dX2_serveQueues_36 : decode cX2_serveQueues 36 = .ok (.ireturn, 1) := by decide +kernel
theorem dX2_endHourOfClerks_0 : decode cX2_endHourOfClerks 0 = .ok (.iconst 0, 1) := by decide +kernel
theorem dX2_endHourOfClerks_1 : decode cX2_endHourOfClerks 1 = .ok (.istore_n 1, 1) := by decide +kernel
theorem dX2_endHourOfClerks_2 : decode cX2_endHourOfClerks 2 = .ok (.iload_n 1, 1) := by decide +kernel
theorem dX2_endHourOfClerks_3 : decode cX2_endHourOfClerks 3 = .ok (.aload_n 0, 1) := by decide +kernel
theorem dX2_endHourOfClerks_4 : decode cX2_endHourOfClerks 4 = .ok (.getfield 32, 3) := by decide +kernel
theorem dX2_endHourOfClerks_7 : decode cX2_endHourOfClerks 7 = .ok (.if_icmp .ge 18, 3) := by decide +kernel
theorem dX2_endHourOfClerks_10 : decode cX2_endHourOfClerks 10 = .ok (.aload_n 0, 1) := by decide +kernel
theorem dX2_endHourOfClerks_11 : decode cX2_endHourOfClerks 11 = .ok (.getfield 20, 3) := by decide +kernel
theorem dX2_endHourOfClerks_14 : decode cX2_endHourOfClerks 14 = .ok (.iload_n 1, 1) := by decide +kernel
theorem dX2_endHourOfClerks_15 : decode cX2_endHourOfClerks 15 = .ok (.aaload, 1) := by decide +kernel
theorem dX2_endHourOfClerks_16 : decode cX2_endHourOfClerks 16 = .ok (.invokevirtual 92, 3) := by decide +kernel
theorem dX2_endHourOfClerks_19 : decode cX2_endHourOfClerks 19 = .ok (.iinc 1 1, 3) := by decide +kernel
theorem dX2_endHourOfClerks_22 : decode cX2_endHourOfClerks 22 = .ok (.goto (-20), 3) := by decide +kernel
theorem dX2_endHourOfClerks_25 : decode cX2_endHourOfClerks 25 = .ok (.return_, 1) := by decide +kernel
theorem dX2_firstFree_0 : decode cX2_firstFree 0 = .ok (.bipush (-5), 2) := by decide +kernel
theorem dX2_firstFree_2 : decode cX2_firstFree 2 = .ok (.istore_n 1, 1) := by decide +kernel
theorem dX2_firstFree_3 : decode cX2_firstFree 3 = .ok (.iconst 0, 1) := by decide +kernel
theorem dX2_firstFree_4 : decode cX2_firstFree 4 = .ok (.istore_n 2, 1) := by decide +kernel
theorem dX2_firstFree_5 : decode cX2_firstFree 5 = .ok (.iload_n 2, 1) := by decide +kernel
theorem dX2_firstFree_6 : decode cX2_firstFree 6 = .ok (.aload_n 0, 1) := by decide +kernel
theorem dX2_firstFree_7 : decode cX2_firstFree 7 = .ok (.getfield 32, 3) := by decide +kernel
theorem dX2_firstFree_10 : decode cX2_firstFree 10 = .ok (.if_icmp .ge 38, 3) := by decide +kernel
theorem dX2_firstFree_13 : decode cX2_firstFree 13 = .ok (.aload_n 0, 1) := by decide +kernel
theorem dX2_firstFree_14 : decode cX2_firstFree 14 = .ok (.getfield 20, 3) := by decide +kernel
theorem dX2_firstFree_17 : decode cX2_firstFree 17 = .ok (.iload_n 2, 1) := by decide +kernel
theorem dX2_firstFree_18 : decode cX2_firstFree 18 = .ok (.aaload, 1) := by decide +kernel
theorem dX2_firstFree_19 : decode cX2_firstFree 19 = .ok (.invokevirtual 95, 3) := by decide +kernel
theorem dX2_firstFree_22 : decode cX2_firstFree 22 = .ok (.ifCond .eq 20, 3) := by decide +kernel
theorem dX2_firstFree_25 : decode cX2_firstFree 25 = .ok (.iload_n 1, 1) := by decide +kernel
theorem dX2_firstFree_26 : decode cX2_firstFree 26 = .ok (.bipush (-5), 2) := by decide +kernel
theorem dX2_firstFree_28 : decode cX2_firstFree 28 = .ok (.if_icmp .eq 12, 3) := by decide +kernel
theorem dX2_firstFree_31 : decode cX2_firstFree 31 = .ok (.aload_n 0, 1) := by decide +kernel
theorem dX2_firstFree_32 : decode cX2_firstFree 32 = .ok (.iload_n 2, 1) := by decide +kernel
theorem dX2_firstFree_33 : decode cX2_firstFree 33 = .ok (.iload_n 1, 1) := by decide +kernel
theorem dX2_firstFree_34 : decode cX2_firstFree 34 = .ok (.invokevirtual 98, 3) := by decide +kernel
theorem dX2_firstFree_37 : decode cX2_firstFree 37 = .ok (.ifCond .eq 5, 3) := by decide +kernel
theorem dX2_firstFree_40 : decode cX2_firstFree 40 = .ok (.iload_n 2, 1) := by decide +kernel
theorem dX2_firstFree_41 : decode cX2_firstFree 41 = .ok (.istore_n 1, 1) := by decide +kernel
theorem dX2_firstFree_42 : decode cX2_firstFree 42 = .ok (.iinc 2 1, 3) := by decide +kernel
theorem dX2_firstFree_45 : decode cX2_firstFree 45 = .ok (.goto (-40), 3) := by decide +kernel
theorem dX2_firstFree_48 : decode cX2_firstFree 48 = .ok (.iload_n 1, 1) := by decide +kernel
theorem dX2_firstFree_49 : decode cX2_firstFree 49 = .ok (.ireturn, 1) := by decide +kernel
theorem dX2_comesBefore_0 : decode cX2_comesBefore 0 = .ok (.aload_n 0, 1) := by decide +kernel
theorem dX2_comesBefore_1 : decode cX2_comesBefore 1 = .ok (.getfield 20, 3) := by decide +kernel
theorem dX2_comesBefore_4 : decode cX2_comesBefore 4 = .ok (.iload_n 1, 1) := by decide +kernel
theorem dX2_comesBefore_5 : decode cX2_comesBefore 5 = .ok (.aaload, 1) := by decide +kernel
theorem dX2_comesBefore_6 : decode cX2_comesBefore 6 = .ok (.getfield 102, 3) := by decide +kernel
theorem dX2_comesBefore_9 : decode cX2_comesBefore 9 = .ok (.aload_n 0, 1) := by decide +kernel
theorem dX2_comesBefore_10 : decode cX2_comesBefore 10 = .ok (.getfield 20, 3) := by decide +kernel
theorem dX2_comesBefore_13 : decode cX2_comesBefore 13 = .ok (.iload_n 2, 1) := by decide +kernel
theorem dX2_comesBefore_14 : decode cX2_comesBefore 14 = .ok (.aaload, 1) := by decide +kernel
theorem dX2_comesBefore_15 : decode cX2_comesBefore 15 = .ok (.getfield 102, 3) := by decide +kernel
theorem dX2_comesBefore_18 : decode cX2_comesBefore 18 = .ok (.isub, 1) := by decide +kernel
theorem dX2_comesBefore_19 : decode cX2_comesBefore 19 = .ok (.istore_n 3, 1) := by decide +kernel
theorem dX2_comesBefore_20 : decode cX2_comesBefore 20 = .ok (.iload_n 3, 1) := by decide +kernel
theorem dX2_comesBefore_21 : decode cX2_comesBefore 21 = .ok (.ifCond .lt 12, 3) := by decide +kernel
theorem dX2_comesBefore_24 : decode cX2_comesBefore 24 = .ok (.iload_n 3, 1) := by decide +kernel
theorem dX2_comesBefore_25 : decode cX2_comesBefore 25 = .ok (.ifCond .ne 12, 3) := by decide +kernel
theorem dX2_comesBefore_28 : decode cX2_comesBefore 28 = .ok (.iload_n 1, 1) := by decide +kernel
theorem dX2_comesBefore_29 : decode cX2_comesBefore 29 = .ok (.iload_n 2, 1) := by decide +kernel
theorem dX2_comesBefore_30 : decode cX2_comesBefore 30 = .ok (.if_icmp .ge 7, 3) := by decide +kernel
theorem dX2_comesBefore_33 : decode cX2_comesBefore 33 = .ok (.iconst 1, 1) := by decide +kernel
theorem dX2_comesBefore_34 : decode cX2_comesBefore 34 = .ok (.goto 4, 3) := by decide +kernel
theorem dX2_comesBefore_37 : decode cX2_comesBefore 37 = .ok (.iconst 0, 1) := by decide +kernel
theorem dX2_comesBefore_38 : decode cX2_comesBefore 38 = .ok (.ireturn, 1) := by decide +kernel
theorem dX2_placeAmongFree_0 : decode cX2_placeAmongFree 0 = .ok (.iconst 0, 1) := by decide +kernel
theorem dX2_placeAmongFree_1 : decode cX2_placeAmongFree 1 = .ok (.istore_n 2, 1) := by decide +kernel
theorem dX2_placeAmongFree_2 : decode cX2_placeAmongFree 2 = .ok (.iconst 0, 1) := by decide +kernel
theorem dX2_placeAmongFree_3 : decode cX2_placeAmongFree 3 = .ok (.istore_n 3, 1) := by decide +kernel
theorem dX2_placeAmongFree_4 : decode cX2_placeAmongFree 4 = .ok (.iload_n 3, 1) := by decide +kernel
theorem dX2_placeAmongFree_5 : decode cX2_placeAmongFree 5 = .ok (.aload_n 0, 1) := by decide +kernel
theorem dX2_placeAmongFree_6 : decode cX2_placeAmongFree 6 = .ok (.getfield 32, 3) := by decide +kernel
theorem dX2_placeAmongFree_9 : decode cX2_placeAmongFree 9 = .ok (.if_icmp .ge 33, 3) := by decide +kernel
theorem dX2_placeAmongFree_12 : decode cX2_placeAmongFree 12 = .ok (.aload_n 0, 1) := by decide +kernel
theorem dX2_placeAmongFree_13 : decode cX2_placeAmongFree 13 = .ok (.getfield 20, 3) := by decide +kernel
theorem dX2_placeAmongFree_16 : decode cX2_placeAmongFree 16 = .ok (.iload_n 3, 1) := by decide +kernel
theorem dX2_placeAmongFree_17 : decode cX2_placeAmongFree 17 = .ok (.aaload, 1) := by decide +kernel
theorem dX2_placeAmongFree_18 : decode cX2_placeAmongFree 18 = .ok (.invokevirtual 95, 3) := by decide +kernel
theorem dX2_placeAmongFree_21 : decode cX2_placeAmongFree 21 = .ok (.ifCond .eq 15, 3) := by decide +kernel
theorem dX2_placeAmongFree_24 : decode cX2_placeAmongFree 24 = .ok (.aload_n 0, 1) := by decide +kernel
theorem dX2_placeAmongFree_25 : decode cX2_placeAmongFree 25 = .ok (.iload_n 3, 1) := by decide +kernel
theorem dX2_placeAmongFree_26 : decode cX2_placeAmongFree 26 = .ok (.iload_n 1, 1) := by decide +kernel
theorem dX2_placeAmongFree_27 : decode cX2_placeAmongFree 27 = .ok (.invokevirtual 98, 3) := by decide +kernel
theorem dX2_placeAmongFree_30 : decode cX2_placeAmongFree 30 = .ok (.ifCond .eq 6, 3) := by decide +kernel
theorem dX2_placeAmongFree_33 : decode cX2_placeAmongFree 33 = .ok (.iinc 2 1, 3) := by decide +kernel
theorem dX2_placeAmongFree_36 : decode cX2_placeAmongFree 36 = .ok (.iinc 3 1, 3) := by decide +kernel
theorem dX2_placeAmongFree_39 : decode cX2_placeAmongFree 39 = .ok (.goto (-35), 3) := by decide +kernel
theorem dX2_placeAmongFree_42 : decode cX2_placeAmongFree 42 = .ok (.iload_n 2, 1) := by decide +kernel
theorem dX2_placeAmongFree_43 : decode cX2_placeAmongFree 43 = .ok (.ireturn, 1) := by decide +kernel
theorem dX2_placeByQueue_0 : decode cX2_placeByQueue 0 = .ok (.iconst 0, 1) := by decide +kernel
theorem dX2_placeByQueue_1 : decode cX2_placeByQueue 1 = .ok (.istore_n 2, 1) := by decide +kernel
theorem dX2_placeByQueue_2 : decode cX2_placeByQueue 2 = .ok (.iconst 0, 1) := by decide +kernel
theorem dX2_placeByQueue_3 : decode cX2_placeByQueue 3 = .ok (.istore_n 3, 1) := by decide +kernel
theorem dX2_placeByQueue_4 : decode cX2_placeByQueue 4 = .ok (.iload_n 3, 1) := by decide +kernel
theorem dX2_placeByQueue_5 : decode cX2_placeByQueue 5 = .ok (.aload_n 0, 1) := by decide +kernel
theorem dX2_placeByQueue_6 : decode cX2_placeByQueue 6 = .ok (.getfield 29, 3) := by decide +kernel
theorem dX2_placeByQueue_9 : decode cX2_placeByQueue 9 = .ok (.if_icmp .ge 48, 3) := by decide +kernel
theorem dX2_placeByQueue_12 : decode cX2_placeByQueue 12 = .ok (.aload_n 0, 1) := by decide +kernel
theorem dX2_placeByQueue_13 : decode cX2_placeByQueue 13 = .ok (.getfield 11, 3) := by decide +kernel
theorem dX2_placeByQueue_16 : decode cX2_placeByQueue 16 = .ok (.iload_n 3, 1) := by decide +kernel
theorem dX2_placeByQueue_17 : decode cX2_placeByQueue 17 = .ok (.aaload, 1) := by decide +kernel
theorem dX2_placeByQueue_18 : decode cX2_placeByQueue 18 = .ok (.getfield 61, 3) := by decide +kernel
theorem dX2_placeByQueue_21 : decode cX2_placeByQueue 21 = .ok (.aload_n 0, 1) := by decide +kernel
theorem dX2_placeByQueue_22 : decode cX2_placeByQueue 22 = .ok (.getfield 11, 3) := by decide +kernel
theorem dX2_placeByQueue_25 : decode cX2_placeByQueue 25 = .ok (.iload_n 1, 1) := by decide +kernel
theorem dX2_placeByQueue_26 : decode cX2_placeByQueue 26 = .ok (.aaload, 1) := by decide +kernel
theorem dX2_placeByQueue_27 : decode cX2_placeByQueue 27 = .ok (.getfield 61, 3) := by decide +kernel
theorem dX2_placeByQueue_30 : decode cX2_placeByQueue 30 = .ok (.isub, 1) := by decide +kernel
theorem dX2_placeByQueue_31 : decode cX2_placeByQueue 31 = .ok (.istore 4, 2) := by decide +kernel
theorem dX2_placeByQueue_33 : decode cX2_placeByQueue 33 = .ok (.iload 4, 2) := by decide +kernel
theorem dX2_placeByQueue_35 : decode cX2_placeByQueue 35 = .ok (.ifCond .gt 13, 3) := by decide +kernel
theorem dX2_placeByQueue_38 : decode cX2_placeByQueue 38 = .ok (.iload 4, 2) := by decide +kernel
theorem dX2_placeByQueue_40 : decode cX2_placeByQueue 40 = .ok (.ifCond .ne 11, 3) := by decide +kernel
theorem dX2_placeByQueue_43 : decode cX2_placeByQueue 43 = .ok (.iload_n 3, 1) := by decide +kernel
theorem dX2_placeByQueue_44 : decode cX2_placeByQueue 44 = .ok (.iload_n 1, 1) := by decide +kernel
theorem dX2_placeByQueue_45 : decode cX2_placeByQueue 45 = .ok (.if_icmp .ge 6, 3) := by decide +kernel
theorem dX2_placeByQueue_48 : decode cX2_placeByQueue 48 = .ok (.iinc 2 1, 3) := by decide +kernel
theorem dX2_placeByQueue_51 : decode cX2_placeByQueue 51 = .ok (.iinc 3 1, 3) := by decide +kernel
theorem dX2_placeByQueue_54 : decode cX2_placeByQueue 54 = .ok (.goto (-50), 3) := by decide +kernel
theorem dX2_placeByQueue_57 : decode cX2_placeByQueue 57 = .ok (.iload_n 2, 1) := by decide +kernel
theorem dX2_placeByQueue_58 : decode cX2_placeByQueue 58 = .ok (.ireturn, 1) := by decide +kernel
theorem dX2_clerksAt_0 : decode cX2_clerksAt 0 = .ok (.iconst 0, 1) := by decide +kernel
theorem dX2_clerksAt_1 : decode cX2_clerksAt 1 = .ok (.istore_n 2, 1) := by decide +kernel
theorem dX2_clerksAt_2 : decode cX2_clerksAt 2 = .ok (.iconst 0, 1) := by decide +kernel
theorem dX2_clerksAt_3 : decode cX2_clerksAt 3 = .ok (.istore_n 3, 1) := by decide +kernel
theorem dX2_clerksAt_4 : decode cX2_clerksAt 4 = .ok (.iload_n 3, 1) := by decide +kernel
theorem dX2_clerksAt_5 : decode cX2_clerksAt 5 = .ok (.aload_n 0, 1) := by decide +kernel
theorem dX2_clerksAt_6 : decode cX2_clerksAt 6 = .ok (.getfield 32, 3) := by decide +kernel
theorem dX2_clerksAt_9 : decode cX2_clerksAt 9 = .ok (.if_icmp .ge 25, 3) := by decide +kernel
theorem dX2_clerksAt_12 : decode cX2_clerksAt 12 = .ok (.aload_n 0, 1) := by decide +kernel
theorem dX2_clerksAt_13 : decode cX2_clerksAt 13 = .ok (.getfield 20, 3) := by decide +kernel
theorem dX2_clerksAt_16 : decode cX2_clerksAt 16 = .ok (.iload_n 3, 1) := by decide +kernel
theorem dX2_clerksAt_17 : decode cX2_clerksAt 17 = .ok (.aaload, 1) := by decide +kernel
theorem dX2_clerksAt_18 : decode cX2_clerksAt 18 = .ok (.getfield 72, 3) := by decide +kernel
theorem dX2_clerksAt_21 : decode cX2_clerksAt 21 = .ok (.iload_n 1, 1) := by decide +kernel
theorem dX2_clerksAt_22 : decode cX2_clerksAt 22 = .ok (.if_icmp .ne 6, 3) := by decide +kernel
theorem dX2_clerksAt_25 : decode cX2_clerksAt 25 = .ok (.iinc 2 1, 3) := by decide +kernel
theorem dX2_clerksAt_28 : decode cX2_clerksAt 28 = .ok (.iinc 3 1, 3) := by decide +kernel
theorem dX2_clerksAt_31 : decode cX2_clerksAt 31 = .ok (.goto (-27), 3) := by decide +kernel
theorem dX2_clerksAt_34 : decode cX2_clerksAt 34 = .ok (.iload_n 2, 1) := by decide +kernel
theorem dX2_clerksAt_35 : decode cX2_clerksAt 35 = .ok (.ireturn, 1) := by decide +kernel
theorem dX2_servedAnHourAt_0 : decode cX2_servedAnHourAt 0 = .ok (.iconst 0, 1) := by decide +kernel
theorem dX2_servedAnHourAt_1 : decode cX2_servedAnHourAt 1 = .ok (.istore_n 2, 1) := by decide +kernel
theorem dX2_servedAnHourAt_2 : decode cX2_servedAnHourAt 2 = .ok (.iconst 0, 1) := by decide +kernel
theorem dX2_servedAnHourAt_3 : decode cX2_servedAnHourAt 3 = .ok (.istore_n 3, 1) := by decide +kernel
theorem dX2_servedAnHourAt_4 : decode cX2_servedAnHourAt 4 = .ok (.iload_n 3, 1) := by decide +kernel
theorem dX2_servedAnHourAt_5 : decode cX2_servedAnHourAt 5 = .ok (.aload_n 0, 1) := by decide +kernel
theorem dX2_servedAnHourAt_6 : decode cX2_servedAnHourAt 6 = .ok (.getfield 32, 3) := by decide +kernel
theorem dX2_servedAnHourAt_9 : decode cX2_servedAnHourAt 9 = .ok (.if_icmp .ge 34, 3) := by decide +kernel
theorem dX2_servedAnHourAt_12 : decode cX2_servedAnHourAt 12 = .ok (.aload_n 0, 1) := by decide +kernel
theorem dX2_servedAnHourAt_13 : decode cX2_servedAnHourAt 13 = .ok (.getfield 20, 3) := by decide +kernel
theorem dX2_servedAnHourAt_16 : decode cX2_servedAnHourAt 16 = .ok (.iload_n 3, 1) := by decide +kernel
theorem dX2_servedAnHourAt_17 : decode cX2_servedAnHourAt 17 = .ok (.aaload, 1) := by decide +kernel
theorem dX2_servedAnHourAt_18 : decode cX2_servedAnHourAt 18 = .ok (.getfield 72, 3) := by decide +kernel
theorem dX2_servedAnHourAt_21 : decode cX2_servedAnHourAt 21 = .ok (.iload_n 1, 1) := by decide +kernel
theorem dX2_servedAnHourAt_22 : decode cX2_servedAnHourAt 22 = .ok (.if_icmp .ne 15, 3) := by decide +kernel
theorem dX2_servedAnHourAt_25 : decode cX2_servedAnHourAt 25 = .ok (.iload_n 2, 1) := by decide +kernel
theorem dX2_servedAnHourAt_26 : decode cX2_servedAnHourAt 26 = .ok (.aload_n 0, 1) := by decide +kernel
theorem dX2_servedAnHourAt_27 : decode cX2_servedAnHourAt 27 = .ok (.getfield 20, 3) := by decide +kernel
theorem dX2_servedAnHourAt_30 : decode cX2_servedAnHourAt 30 = .ok (.iload_n 3, 1) := by decide +kernel
theorem dX2_servedAnHourAt_31 : decode cX2_servedAnHourAt 31 = .ok (.aaload, 1) := by decide +kernel
theorem dX2_servedAnHourAt_32 : decode cX2_servedAnHourAt 32 = .ok (.getfield 42, 3) := by decide +kernel
theorem dX2_servedAnHourAt_35 : decode cX2_servedAnHourAt 35 = .ok (.iadd, 1) := by decide +kernel
theorem dX2_servedAnHourAt_36 : decode cX2_servedAnHourAt 36 = .ok (.istore_n 2, 1) := by decide +kernel
theorem dX2_servedAnHourAt_37 : decode cX2_servedAnHourAt 37 = .ok (.iinc 3 1, 3) := by decide +kernel
theorem dX2_servedAnHourAt_40 : decode cX2_servedAnHourAt 40 = .ok (.goto (-36), 3) := by decide +kernel
theorem dX2_servedAnHourAt_43 : decode cX2_servedAnHourAt 43 = .ok (.iload_n 2, 1) := by decide +kernel
theorem dX2_servedAnHourAt_44 : decode cX2_servedAnHourAt 44 = .ok (.ireturn, 1) := by decide +kernel
theorem dX2_hoursForQueueOf_0 : decode cX2_hoursForQueueOf 0 = .ok (.aload_n 0, 1) := by decide +kernel
theorem dX2_hoursForQueueOf_1 : decode cX2_hoursForQueueOf 1 = .ok (.getfield 11, 3) := by decide +kernel
theorem dX2_hoursForQueueOf_4 : decode cX2_hoursForQueueOf 4 = .ok (.iload_n 1, 1) := by decide +kernel
theorem dX2_hoursForQueueOf_5 : decode cX2_hoursForQueueOf 5 = .ok (.aaload, 1) := by decide +kernel
theorem dX2_hoursForQueueOf_6 : decode cX2_hoursForQueueOf 6 = .ok (.getfield 61, 3) := by decide +kernel
theorem dX2_hoursForQueueOf_9 : decode cX2_hoursForQueueOf 9 = .ok (.istore_n 2, 1) := by decide +kernel
theorem dX2_hoursForQueueOf_10 : decode cX2_hoursForQueueOf 10 = .ok (.aload_n 0, 1) := by decide +kernel
theorem dX2_hoursForQueueOf_11 : decode cX2_hoursForQueueOf 11 = .ok (.iload_n 1, 1) := by decide +kernel
theorem dX2_hoursForQueueOf_12 : decode cX2_hoursForQueueOf 12 = .ok (.invokevirtual 85, 3) := by decide +kernel
theorem dX2_hoursForQueueOf_15 : decode cX2_hoursForQueueOf 15 = .ok (.istore_n 3, 1) := by decide +kernel
theorem dX2_hoursForQueueOf_16 : decode cX2_hoursForQueueOf 16 = .ok (.iload_n 2, 1) := by decide +kernel
theorem dX2_hoursForQueueOf_17 : decode cX2_hoursForQueueOf 17 = .ok (.ifCond .ne 5, 3) := by decide +kernel
theorem dX2_hoursForQueueOf_20 : decode cX2_hoursForQueueOf 20 = .ok (.iconst 0, 1) := by decide +kernel
theorem dX2_hoursForQueueOf_21 : decode cX2_hoursForQueueOf 21 = .ok (.ireturn, 1) := by decide +kernel
theorem dX2_hoursForQueueOf_22 : decode cX2_hoursForQueueOf 22 = .ok (.iload_n 3, 1) := by decide +kernel
theorem dX2_hoursForQueueOf_23 : decode cX2_hoursForQueueOf 23 = .ok (.ifCond .gt 6, 3) := by decide +kernel
theorem dX2_hoursForQueueOf_26 : decode cX2_hoursForQueueOf 26 = .ok (.bipush (-5), 2) := by decide +kernel
theorem dX2_hoursForQueueOf_28 : decode cX2_hoursForQueueOf 28 = .ok (.ireturn, 1) := by decide +kernel
theorem dX2_hoursForQueueOf_29 : decode cX2_hoursForQueueOf 29 = .ok (.iload_n 2, 1) := by decide +kernel
theorem dX2_hoursForQueueOf_30 : decode cX2_hoursForQueueOf 30 = .ok (.iload_n 3, 1) := by decide +kernel
theorem dX2_hoursForQueueOf_31 : decode cX2_hoursForQueueOf 31 = .ok (.iadd, 1) := by decide +kernel
theorem dX2_hoursForQueueOf_32 : decode cX2_hoursForQueueOf 32 = .ok (.iconst 1, 1) := by decide +kernel
theorem dX2_hoursForQueueOf_33 : decode cX2_hoursForQueueOf 33 = .ok (.isub, 1) := by decide +kernel
theorem dX2_hoursForQueueOf_34 : decode cX2_hoursForQueueOf 34 = .ok (.iload_n 3, 1) := by decide +kernel
theorem dX2_hoursForQueueOf_35 : decode cX2_hoursForQueueOf 35 = .ok (.idiv, 1) := by decide +kernel
theorem dX2_hoursForQueueOf_36 : decode cX2_hoursForQueueOf 36 = .ok (.ireturn, 1) := by decide +kernel
theorem dX2_clerksOnDuty_0 : decode cX2_clerksOnDuty 0 = .ok (.iconst 0, 1) := by decide +kernel
theorem dX2_clerksOnDuty_1 : decode cX2_clerksOnDuty 1 = .ok (.istore_n 1, 1) := by decide +kernel
theorem dX2_clerksOnDuty_2 : decode cX2_clerksOnDuty 2 = .ok (.iconst 0, 1) := by decide +kernel
theorem dX2_clerksOnDuty_3 : decode cX2_clerksOnDuty 3 = .ok (.istore_n 2, 1) := by decide +kernel
theorem dX2_clerksOnDuty_4 : decode cX2_clerksOnDuty 4 = .ok (.iload_n 2, 1) := by decide +kernel
theorem dX2_clerksOnDuty_5 : decode cX2_clerksOnDuty 5 = .ok (.aload_n 0, 1) := by decide +kernel
theorem dX2_clerksOnDuty_6 : decode cX2_clerksOnDuty 6 = .ok (.getfield 32, 3) := by decide +kernel
theorem dX2_clerksOnDuty_9 : decode cX2_clerksOnDuty 9 = .ok (.if_icmp .ge 24, 3) := by decide +kernel
theorem dX2_clerksOnDuty_12 : decode cX2_clerksOnDuty 12 = .ok (.aload_n 0, 1) := by decide +kernel
theorem dX2_clerksOnDuty_13 : decode cX2_clerksOnDuty 13 = .ok (.getfield 20, 3) := by decide +kernel
theorem dX2_clerksOnDuty_16 : decode cX2_clerksOnDuty 16 = .ok (.iload_n 2, 1) := by decide +kernel
theorem dX2_clerksOnDuty_17 : decode cX2_clerksOnDuty 17 = .ok (.aaload, 1) := by decide +kernel
theorem dX2_clerksOnDuty_18 : decode cX2_clerksOnDuty 18 = .ok (.invokevirtual 105, 3) := by decide +kernel
theorem dX2_clerksOnDuty_21 : decode cX2_clerksOnDuty 21 = .ok (.ifCond .eq 6, 3) := by decide +kernel
theorem dX2_clerksOnDuty_24 : decode cX2_clerksOnDuty 24 = .ok (.iinc 1 1, 3) := by decide +kernel
theorem dX2_clerksOnDuty_27 : decode cX2_clerksOnDuty 27 = .ok (.iinc 2 1, 3) := by decide +kernel
theorem dX2_clerksOnDuty_30 : decode cX2_clerksOnDuty 30 = .ok (.goto (-26), 3) := by decide +kernel
theorem dX2_clerksOnDuty_33 : decode cX2_clerksOnDuty 33 = .ok (.iload_n 1, 1) := by decide +kernel
theorem dX2_clerksOnDuty_34 : decode cX2_clerksOnDuty 34 = .ok (.ireturn, 1) := by decide +kernel
theorem dX2_freeClerks_0 : decode cX2_freeClerks 0 = .ok (.iconst 0, 1) := by decide +kernel
theorem dX2_freeClerks_1 : decode cX2_freeClerks 1 = .ok (.istore_n 1, 1) := by decide +kernel
theorem dX2_freeClerks_2 : decode cX2_freeClerks 2 = .ok (.iconst 0, 1) := by decide +kernel
theorem dX2_freeClerks_3 : decode cX2_freeClerks 3 = .ok (.istore_n 2, 1) := by decide +kernel
theorem dX2_freeClerks_4 : decode cX2_freeClerks 4 = .ok (.iload_n 2, 1) := by decide +kernel
theorem dX2_freeClerks_5 : decode cX2_freeClerks 5 = .ok (.aload_n 0, 1) := by decide +kernel
theorem dX2_freeClerks_6 : decode cX2_freeClerks 6 = .ok (.getfield 32, 3) := by decide +kernel
theorem dX2_freeClerks_9 : decode cX2_freeClerks 9 = .ok (.if_icmp .ge 24, 3) := by decide +kernel
theorem dX2_freeClerks_12 : decode cX2_freeClerks 12 = .ok (.aload_n 0, 1) := by decide +kernel
theorem dX2_freeClerks_13 : decode cX2_freeClerks 13 = .ok (.getfield 20, 3) := by decide +kernel
theorem dX2_freeClerks_16 : decode cX2_freeClerks 16 = .ok (.iload_n 2, 1) := by decide +kernel
theorem dX2_freeClerks_17 : decode cX2_freeClerks 17 = .ok (.aaload, 1) := by decide +kernel
theorem dX2_freeClerks_18 : decode cX2_freeClerks 18 = .ok (.invokevirtual 95, 3) := by decide +kernel
theorem dX2_freeClerks_21 : decode cX2_freeClerks 21 = .ok (.ifCond .eq 6, 3) := by decide +kernel
theorem dX2_freeClerks_24 : decode cX2_freeClerks 24 = .ok (.iinc 1 1, 3) := by decide +kernel
theorem dX2_freeClerks_27 : decode cX2_freeClerks 27 = .ok (.iinc 2 1, 3) := by decide +kernel
theorem dX2_freeClerks_30 : decode cX2_freeClerks 30 = .ok (.goto (-26), 3) := by decide +kernel
theorem dX2_freeClerks_33 : decode cX2_freeClerks 33 = .ok (.iload_n 1, 1) := by decide +kernel
theorem dX2_freeClerks_34 : decode cX2_freeClerks 34 = .ok (.ireturn, 1) := by decide +kernel
theorem dX2_hoursWorked_0 : decode cX2_hoursWorked 0 = .ok (.iconst 0, 1) := by decide +kernel
theorem dX2_hoursWorked_1 : decode cX2_hoursWorked 1 = .ok (.istore_n 1, 1) := by decide +kernel
theorem dX2_hoursWorked_2 : decode cX2_hoursWorked 2 = .ok (.iconst 0, 1) := by decide +kernel
theorem dX2_hoursWorked_3 : decode cX2_hoursWorked 3 = .ok (.istore_n 2, 1) := by decide +kernel
theorem dX2_hoursWorked_4 : decode cX2_hoursWorked 4 = .ok (.iload_n 2, 1) := by decide +kernel
theorem dX2_hoursWorked_5 : decode cX2_hoursWorked 5 = .ok (.aload_n 0, 1) := by decide +kernel
theorem dX2_hoursWorked_6 : decode cX2_hoursWorked 6 = .ok (.getfield 32, 3) := by decide +kernel
theorem dX2_hoursWorked_9 : decode cX2_hoursWorked 9 = .ok (.if_icmp .ge 21, 3) := by decide +kernel
theorem dX2_hoursWorked_12 : decode cX2_hoursWorked 12 = .ok (.iload_n 1, 1) := by decide +kernel
theorem dX2_hoursWorked_13 : decode cX2_hoursWorked 13 = .ok (.aload_n 0, 1) := by decide +kernel
theorem dX2_hoursWorked_14 : decode cX2_hoursWorked 14 = .ok (.getfield 20, 3) := by decide +kernel
theorem dX2_hoursWorked_17 : decode cX2_hoursWorked 17 = .ok (.iload_n 2, 1) := by decide +kernel
theorem dX2_hoursWorked_18 : decode cX2_hoursWorked 18 = .ok (.aaload, 1) := by decide +kernel
theorem dX2_hoursWorked_19 : decode cX2_hoursWorked 19 = .ok (.getfield 102, 3) := by decide +kernel
theorem dX2_hoursWorked_22 : decode cX2_hoursWorked 22 = .ok (.iadd, 1) := by decide +kernel
theorem dX2_hoursWorked_23 : decode cX2_hoursWorked 23 = .ok (.istore_n 1, 1) := by decide +kernel
theorem dX2_hoursWorked_24 : decode cX2_hoursWorked 24 = .ok (.iinc 2 1, 3) := by decide +kernel
theorem dX2_hoursWorked_27 : decode cX2_hoursWorked 27 = .ok (.goto (-23), 3) := by decide +kernel
theorem dX2_hoursWorked_30 : decode cX2_hoursWorked 30 = .ok (.iload_n 1, 1) := by decide +kernel
theorem dX2_hoursWorked_31 : decode cX2_hoursWorked 31 = .ok (.ireturn, 1) := by decide +kernel
theorem dX2_stationsCounted_0 : decode cX2_stationsCounted 0 = .ok (.iconst 0, 1) := by decide +kernel
theorem dX2_stationsCounted_1 : decode cX2_stationsCounted 1 = .ok (.istore_n 2, 1) := by decide +kernel
theorem dX2_stationsCounted_2 : decode cX2_stationsCounted 2 = .ok (.iconst 0, 1) := by decide +kernel
theorem dX2_stationsCounted_3 : decode cX2_stationsCounted 3 = .ok (.istore_n 3, 1) := by decide +kernel
theorem dX2_stationsCounted_4 : decode cX2_stationsCounted 4 = .ok (.iload_n 3, 1) := by decide +kernel
theorem dX2_stationsCounted_5 : decode cX2_stationsCounted 5 = .ok (.aload_n 0, 1) := by decide +kernel
theorem dX2_stationsCounted_6 : decode cX2_stationsCounted 6 = .ok (.getfield 29, 3) := by decide +kernel
theorem dX2_stationsCounted_9 : decode cX2_stationsCounted 9 = .ok (.if_icmp .ge 37, 3) := by decide +kernel
theorem dX2_stationsCounted_12 : decode cX2_stationsCounted 12 = .ok (.aload_n 0, 1) := by decide +kernel
theorem dX2_stationsCounted_13 : decode cX2_stationsCounted 13 = .ok (.getfield 11, 3) := by decide +kernel
theorem dX2_stationsCounted_16 : decode cX2_stationsCounted 16 = .ok (.iload_n 3, 1) := by decide +kernel
theorem dX2_stationsCounted_17 : decode cX2_stationsCounted 17 = .ok (.aaload, 1) := by decide +kernel
theorem dX2_stationsCounted_18 : decode cX2_stationsCounted 18 = .ok (.invokevirtual 108, 3) := by decide +kernel
theorem dX2_stationsCounted_21 : decode cX2_stationsCounted 21 = .ok (.ifCond .eq 19, 3) := by decide +kernel
theorem dX2_stationsCounted_24 : decode cX2_stationsCounted 24 = .ok (.aload_n 0, 1) := by decide +kernel
theorem dX2_stationsCounted_25 : decode cX2_stationsCounted 25 = .ok (.getfield 11, 3) := by decide +kernel
theorem dX2_stationsCounted_28 : decode cX2_stationsCounted 28 = .ok (.iload_n 3, 1) := by decide +kernel
theorem dX2_stationsCounted_29 : decode cX2_stationsCounted 29 = .ok (.aaload, 1) := by decide +kernel
theorem dX2_stationsCounted_30 : decode cX2_stationsCounted 30 = .ok (.invokevirtual 111, 3) := by decide +kernel
theorem dX2_stationsCounted_33 : decode cX2_stationsCounted 33 = .ok (.iload_n 1, 1) := by decide +kernel
theorem dX2_stationsCounted_34 : decode cX2_stationsCounted 34 = .ok (.if_icmp .ne 6, 3) := by decide +kernel
theorem dX2_stationsCounted_37 : decode cX2_stationsCounted 37 = .ok (.iinc 2 1, 3) := by decide +kernel
theorem dX2_stationsCounted_40 : decode cX2_stationsCounted 40 = .ok (.iinc 3 1, 3) := by decide +kernel
theorem dX2_stationsCounted_43 : decode cX2_stationsCounted 43 = .ok (.goto (-39), 3) := by decide +kernel
theorem dX2_stationsCounted_46 : decode cX2_stationsCounted 46 = .ok (.iload_n 2, 1) := by decide +kernel
theorem dX2_stationsCounted_47 : decode cX2_stationsCounted 47 = .ok (.ireturn, 1) := by decide +kernel
theorem dX3_init_0 : decode cX3_init 0 = .ok (.aload_n 0, 1) := by decide +kernel
theorem dX3_init_1 : decode cX3_init 1 = .ok (.invokespecial 3, 3) := by decide +kernel
theorem dX3_init_4 : decode cX3_init 4 = .ok (.aload_n 0, 1) := by decide +kernel
theorem dX3_init_5 : decode cX3_init 5 = .ok (.iconst 4, 1) := by decide +kernel
theorem dX3_init_6 : decode cX3_init 6 = .ok (.anewarray 9, 3) := by decide +kernel
theorem dX3_init_9 : decode cX3_init 9 = .ok (.putfield 11, 3) := by decide +kernel
theorem dX3_init_12 : decode cX3_init 12 = .ok (.iconst 0, 1) := by decide +kernel
theorem dX3_init_13 : decode cX3_init 13 = .ok (.istore_n 1, 1) := by decide +kernel
theorem dX3_init_14 : decode cX3_init 14 = .ok (.iload_n 1, 1) := by decide +kernel
theorem dX3_init_15 : decode cX3_init 15 = .ok (.iconst 4, 1) := by decide +kernel
theorem dX3_init_16 : decode cX3_init 16 = .ok (.if_icmp .ge 22, 3) := by decide +kernel
theorem dX3_init_19 : decode cX3_init 19 = .ok (.aload_n 0, 1) := by decide +kernel
theorem dX3_init_20 : decode cX3_init 20 = .ok (.getfield 11, 3) := by decide +kernel
theorem dX3_init_23 : decode cX3_init 23 = .ok (.iload_n 1, 1) := by decide +kernel
theorem dX3_init_24 : decode cX3_init 24 = .ok (.new 9, 3) := by decide +kernel
theorem dX3_init_27 : decode cX3_init 27 = .ok (.dup, 1) := by decide +kernel
theorem dX3_init_28 : decode cX3_init 28 = .ok (.invokespecial 17, 3) := by decide +kernel
theorem dX3_init_31 : decode cX3_init 31 = .ok (.aastore, 1) := by decide +kernel
theorem dX3_init_32 : decode cX3_init 32 = .ok (.iinc 1 1, 3) := by decide +kernel
theorem dX3_init_35 : decode cX3_init 35 = .ok (.goto (-21), 3) := by decide +kernel
theorem dX3_init_38 : decode cX3_init 38 = .ok (.return_, 1) := by decide +kernel
theorem dX3_remember_0 : decode cX3_remember 0 = .ok (.aload_n 0, 1) := by decide +kernel
theorem dX3_remember_1 : decode cX3_remember 1 = .ok (.getfield 18, 3) := by decide +kernel
theorem dX3_remember_4 : decode cX3_remember 4 = .ok (.iconst 4, 1) := by decide +kernel
theorem dX3_remember_5 : decode cX3_remember 5 = .ok (.if_icmp .lt 7, 3) := by decide +kernel
theorem dX3_remember_8 : decode cX3_remember 8 = .ok (.aload_n 0, 1) := by decide +kernel
theorem dX3_remember_9 : decode cX3_remember 9 = .ok (.invokevirtual 22, 3) := by decide +kernel
theorem dX3_remember_12 : decode cX3_remember 12 = .ok (.aload_n 0, 1) := by decide +kernel
theorem dX3_remember_13 : decode cX3_remember 13 = .ok (.getfield 11, 3) := by decide +kernel
theorem dX3_remember_16 : decode cX3_remember 16 = .ok (.aload_n 0, 1) := by decide +kernel
theorem dX3_remember_17 : decode cX3_remember 17 = .ok (.getfield 18, 3) := by decide +kernel
theorem dX3_remember_20 : decode cX3_remember 20 = .ok (.aaload, 1) := by decide +kernel
theorem dX3_remember_21 : decode cX3_remember 21 = .ok (.aload_n 1, 1) := by decide +kernel
theorem dX3_remember_22 : decode cX3_remember 22 = .ok (.invokevirtual 25, 3) := by decide +kernel
theorem dX3_remember_25 : decode cX3_remember 25 = .ok (.aload_n 0, 1) := by decide +kernel
theorem dX3_remember_26 : decode cX3_remember 26 = .ok (.dup, 1) := by decide +kernel
theorem dX3_remember_27 : decode cX3_remember 27 = .ok (.getfield 18, 3) := by decide +kernel
theorem dX3_remember_30 : decode cX3_remember 30 = .ok (.iconst 1, 1) := by decide +kernel
theorem dX3_remember_31 : decode cX3_remember 31 = .ok (.iadd, 1) := by decide +kernel
theorem dX3_remember_32 : decode cX3_remember 32 = .ok (.putfield 18, 3) := by decide +kernel
theorem dX3_remember_35 : decode cX3_remember 35 = .ok (.return_, 1) := by decide +kernel
theorem dX3_dropOldest_0 : decode cX3_dropOldest 0 = .ok (.aload_n 0, 1) := by decide +kernel
theorem dX3_dropOldest_1 : decode cX3_dropOldest 1 = .ok (.getfield 11, 3) := by decide +kernel
theorem dX3_dropOldest_4 : decode cX3_dropOldest 4 = .ok (.iconst 0, 1) := by decide +kernel
theorem dX3_dropOldest_5 : decode cX3_dropOldest 5 = .ok (.aaload, 1) := by decide +kernel
theorem dX3_dropOldest_6 : decode cX3_dropOldest 6 = .ok (.astore_n 1, 1) := by decide +kernel
theorem dX3_dropOldest_7 : decode cX3_dropOldest 7 = .ok (.iconst 1, 1) := by decide +kernel
theorem dX3_dropOldest_8 : decode cX3_dropOldest 8 = .ok (.istore_n 2, 1) := by decide +kernel
theorem dX3_dropOldest_9 : decode cX3_dropOldest 9 = .ok (.iload_n 2, 1) := by decide +kernel
theorem dX3_dropOldest_10 : decode cX3_dropOldest 10 = .ok (.iconst 4, 1) := by decide +kernel
theorem dX3_dropOldest_11 : decode cX3_dropOldest 11 = .ok (.if_icmp .ge 23, 3) := by decide +kernel
theorem dX3_dropOldest_14 : decode cX3_dropOldest 14 = .ok (.aload_n 0, 1) := by decide +kernel
theorem dX3_dropOldest_15 : decode cX3_dropOldest 15 = .ok (.getfield 11, 3) := by decide +kernel
theorem dX3_dropOldest_18 : decode cX3_dropOldest 18 = .ok (.iload_n 2, 1) := by decide +kernel
theorem dX3_dropOldest_19 : decode cX3_dropOldest 19 = .ok (.iconst 1, 1) := by decide +kernel
theorem dX3_dropOldest_20 : decode cX3_dropOldest 20 = .ok (.isub, 1) := by decide +kernel
theorem dX3_dropOldest_21 : decode cX3_dropOldest 21 = .ok (.aload_n 0, 1) := by decide +kernel
theorem dX3_dropOldest_22 : decode cX3_dropOldest 22 = .ok (.getfield 11, 3) := by decide +kernel
theorem dX3_dropOldest_25 : decode cX3_dropOldest 25 = .ok (.iload_n 2, 1) := by decide +kernel
theorem dX3_dropOldest_26 : decode cX3_dropOldest 26 = .ok (.aaload, 1) := by decide +kernel
theorem dX3_dropOldest_27 : decode cX3_dropOldest 27 = .ok (.aastore, 1) := by decide +kernel
theorem dX3_dropOldest_28 : decode cX3_dropOldest 28 = .ok (.iinc 2 1, 3) := by decide +kernel
theorem dX3_dropOldest_31 : decode cX3_dropOldest 31 = .ok (.goto (-22), 3) := by decide +kernel
theorem dX3_dropOldest_34 : decode cX3_dropOldest 34 = .ok (.aload_n 0, 1) := by decide +kernel
theorem dX3_dropOldest_35 : decode cX3_dropOldest 35 = .ok (.getfield 11, 3) := by decide +kernel
theorem dX3_dropOldest_38 : decode cX3_dropOldest 38 = .ok (.iconst 3, 1) := by decide +kernel
theorem dX3_dropOldest_39 : decode cX3_dropOldest 39 = .ok (.aload_n 1, 1) := by decide +kernel
theorem dX3_dropOldest_40 : decode cX3_dropOldest 40 = .ok (.aastore, 1) := by decide +kernel
theorem dX3_dropOldest_41 : decode cX3_dropOldest 41 = .ok (.aload_n 0, 1) := by decide +kernel
theorem dX3_dropOldest_42 : decode cX3_dropOldest 42 = .ok (.iconst 3, 1) := by decide +kernel
theorem dX3_dropOldest_43 : decode cX3_dropOldest 43 = .ok (.putfield 18, 3) := by decide +kernel
theorem dX3_dropOldest_46 : decode cX3_dropOldest 46 = .ok (.return_, 1) := by decide +kernel
theorem dX3_takeBackInto_0 : decode cX3_takeBackInto 0 = .ok (.aload_n 0, 1) := by decide +kernel
theorem dX3_takeBackInto_1 : decode cX3_takeBackInto 1 = .ok (.getfield 18, 3) := by decide +kernel
theorem dX3_takeBackInto_4 : decode cX3_takeBackInto 4 = .ok (.ifCond .le 26, 3) := by decide +kernel
theorem dX3_takeBackInto_7 : decode cX3_takeBackInto 7 = .ok (.aload_n 0, 1) := by decide +kernel
theorem dX3_takeBackInto_8 : decode cX3_takeBackInto 8 = .ok (.dup, 1) := by decide +kernel
theorem dX3_takeBackInto_9 : decode cX3_takeBackInto 9 = .ok (.getfield 18, 3) := by decide +kernel
theorem dX3_takeBackInto_12 : decode cX3_takeBackInto 12 = .ok (.iconst 1, 1) := by decide +kernel
theorem dX3_takeBackInto_13 : decode cX3_takeBackInto 13 = .ok (.isub, 1) := by decide +kernel
theorem dX3_takeBackInto_14 : decode cX3_takeBackInto 14 = .ok (.putfield 18, 3) := by decide +kernel
theorem dX3_takeBackInto_17 : decode cX3_takeBackInto 17 = .ok (.aload_n 1, 1) := by decide +kernel
theorem dX3_takeBackInto_18 : decode cX3_takeBackInto 18 = .ok (.aload_n 0, 1) := by decide +kernel
theorem dX3_takeBackInto_19 : decode cX3_takeBackInto 19 = .ok (.getfield 11, 3) := by decide +kernel
theorem dX3_takeBackInto_22 : decode cX3_takeBackInto 22 = .ok (.aload_n 0, 1) := by decide +kernel
theorem dX3_takeBackInto_23 : decode cX3_takeBackInto 23 = .ok (.getfield 18, 3) := by decide +kernel
theorem dX3_takeBackInto_26 : decode cX3_takeBackInto 26 = .ok (.aaload, 1) := by decide +kernel
theorem dX3_takeBackInto_27 : decode cX3_takeBackInto 27 = .ok (.invokevirtual 25, 3) := by decide +kernel
theorem dX3_takeBackInto_30 : decode cX3_takeBackInto 30 = .ok (.return_, 1) := by decide +kernel
theorem dX4_init_0 : decode cX4_init 0 = .ok (.aload_n 0, 1) := by decide +kernel
theorem dX4_init_1 : decode cX4_init 1 = .ok (.invokespecial 3, 3) := by decide +kernel
theorem dX4_init_4 : decode cX4_init 4 = .ok (.aload_n 0, 1) := by decide +kernel
theorem dX4_init_5 : decode cX4_init 5 = .ok (.bipush 15, 2) := by decide +kernel
theorem dX4_init_7 : decode cX4_init 7 = .ok (.newarray .int, 2) := by decide +kernel
theorem dX4_init_9 : decode cX4_init 9 = .ok (.putfield 9, 3) := by decide +kernel
theorem dX4_init_12 : decode cX4_init 12 = .ok (.return_, 1) := by decide +kernel
theorem dX4_copyFrom_0 : decode cX4_copyFrom 0 = .ok (.aload_n 1, 1) := by decide +kernel
theorem dX4_copyFrom_1 : decode cX4_copyFrom 1 = .ok (.getfield 9, 3) := by decide +kernel
theorem dX4_copyFrom_4 : decode cX4_copyFrom 4 = .ok (.iconst 0, 1) := by decide +kernel
theorem dX4_copyFrom_5 : decode cX4_copyFrom 5 = .ok (.aload_n 0, 1) := by decide +kernel
theorem dX4_copyFrom_6 : decode cX4_copyFrom 6 = .ok (.getfield 9, 3) := by decide +kernel
theorem dX4_copyFrom_9 : decode cX4_copyFrom 9 = .ok (.iconst 0, 1) := by decide +kernel
theorem dX4_copyFrom_10 : decode cX4_copyFrom 10 = .ok (.bipush 15, 2) := by decide +kernel
theorem dX4_copyFrom_12 : decode cX4_copyFrom 12 = .ok (.invokestatic 15, 3) := by decide +kernel
theorem dX4_copyFrom_15 : decode cX4_copyFrom 15 = .ok (.aload_n 0, 1) := by decide +kernel
theorem dX4_copyFrom_16 : decode cX4_copyFrom 16 = .ok (.aload_n 1, 1) := by decide +kernel
theorem dX4_copyFrom_17 : decode cX4_copyFrom 17 = .ok (.getfield 21, 3) := by decide +kernel
theorem dX4_copyFrom_20 : decode cX4_copyFrom 20 = .ok (.putfield 21, 3) := by decide +kernel
theorem dX4_copyFrom_23 : decode cX4_copyFrom 23 = .ok (.aload_n 0, 1) := by decide +kernel
theorem dX4_copyFrom_24 : decode cX4_copyFrom 24 = .ok (.aload_n 1, 1) := by decide +kernel
theorem dX4_copyFrom_25 : decode cX4_copyFrom 25 = .ok (.getfield 25, 3) := by decide +kernel
theorem dX4_copyFrom_28 : decode cX4_copyFrom 28 = .ok (.putfield 25, 3) := by decide +kernel
theorem dX4_copyFrom_31 : decode cX4_copyFrom 31 = .ok (.aload_n 0, 1) := by decide +kernel
theorem dX4_copyFrom_32 : decode cX4_copyFrom 32 = .ok (.aload_n 1, 1) := by decide +kernel
theorem dX4_copyFrom_33 : decode cX4_copyFrom 33 = .ok (.getfield 28, 3) := by decide +kernel
theorem dX4_copyFrom_36 : decode cX4_copyFrom 36 = .ok (.putfield 28, 3) := by decide +kernel
theorem dX4_copyFrom_39 : decode cX4_copyFrom 39 = .ok (.aload_n 0, 1) := by decide +kernel
theorem dX4_copyFrom_40 : decode cX4_copyFrom 40 = .ok (.aload_n 1, 1) := by decide +kernel
theorem dX4_copyFrom_41 : decode cX4_copyFrom 41 = .ok (.getfield 31, 3) := by decide +kernel
theorem dX4_copyFrom_44 : decode cX4_copyFrom 44 = .ok (.putfield 31, 3) := by decide +kernel
theorem dX4_copyFrom_47 : decode cX4_copyFrom 47 = .ok (.aload_n 0, 1) := by decide +kernel
theorem dX4_copyFrom_48 : decode cX4_copyFrom 48 = .ok (.aload_n 1, 1) := by decide +kernel
theorem dX4_copyFrom_49 : decode cX4_copyFrom 49 = .ok (.getfield 34, 3) := by decide +kernel
theorem dX4_copyFrom_52 : decode cX4_copyFrom 52 = .ok (.putfield 34, 3) := by decide +kernel
theorem dX4_copyFrom_55 : decode cX4_copyFrom 55 = .ok (.aload_n 0, 1) := by decide +kernel
theorem dX4_copyFrom_56 : decode cX4_copyFrom 56 = .ok (.aload_n 1, 1) := by decide +kernel
theorem dX4_copyFrom_57 : decode cX4_copyFrom 57 = .ok (.getfield 37, 3) := by decide +kernel
theorem dX4_copyFrom_60 : decode cX4_copyFrom 60 = .ok (.putfield 37, 3) := by decide +kernel
theorem dX4_copyFrom_63 : decode cX4_copyFrom 63 = .ok (.aload_n 0, 1) := by decide +kernel
theorem dX4_copyFrom_64 : decode cX4_copyFrom 64 = .ok (.aload_n 1, 1) := by decide +kernel
theorem dX4_copyFrom_65 : decode cX4_copyFrom 65 = .ok (.getfield 40, 3) := by decide +kernel
theorem dX4_copyFrom_68 : decode cX4_copyFrom 68 = .ok (.putfield 40, 3) := by decide +kernel
theorem dX4_copyFrom_71 : decode cX4_copyFrom 71 = .ok (.aload_n 0, 1) := by decide +kernel
theorem dX4_copyFrom_72 : decode cX4_copyFrom 72 = .ok (.aload_n 1, 1) := by decide +kernel
theorem dX4_copyFrom_73 : decode cX4_copyFrom 73 = .ok (.getfield 43, 3) := by decide +kernel
theorem dX4_copyFrom_76 : decode cX4_copyFrom 76 = .ok (.putfield 43, 3) := by decide +kernel
theorem dX4_copyFrom_79 : decode cX4_copyFrom 79 = .ok (.aload_n 0, 1) := by decide +kernel
theorem dX4_copyFrom_80 : decode cX4_copyFrom 80 = .ok (.aload_n 1, 1) := by decide +kernel
theorem dX4_copyFrom_81 : decode cX4_copyFrom 81 = .ok (.getfield 46, 3) := by decide +kernel
theorem dX4_copyFrom_84 : decode cX4_copyFrom 84 = .ok (.putfield 46, 3) := by decide +kernel
theorem dX4_copyFrom_87 : decode cX4_copyFrom 87 = .ok (.aload_n 0, 1) := by decide +kernel
theorem dX4_copyFrom_88 : decode cX4_copyFrom 88 = .ok (.aload_n 1, 1) := by decide +kernel
theorem dX4_copyFrom_89 : decode cX4_copyFrom 89 = .ok (.getfield 49, 3) := by decide +kernel
theorem dX4_copyFrom_92 : decode cX4_copyFrom 92 = .ok (.putfield 49, 3) := by decide +kernel
theorem dX4_copyFrom_95 : decode cX4_copyFrom 95 = .ok (.aload_n 0, 1) := by decide +kernel
theorem dX4_copyFrom_96 : decode cX4_copyFrom 96 = .ok (.aload_n 1, 1) := by decide +kernel
theorem dX4_copyFrom_97 : decode cX4_copyFrom 97 = .ok (.getfield 52, 3) := by decide +kernel
theorem dX4_copyFrom_100 : decode cX4_copyFrom 100 = .ok (.putfield 52, 3) := by decide +kernel
theorem dX4_copyFrom_103 : decode cX4_copyFrom 103 = .ok (.aload_n 0, 1) := by decide +kernel
theorem dX4_copyFrom_104 : decode cX4_copyFrom 104 = .ok (.aload_n 1, 1) := by decide +kernel
theorem dX4_copyFrom_105 : decode cX4_copyFrom 105 = .ok (.getfield 55, 3) := by decide +kernel
theorem dX4_copyFrom_108 : decode cX4_copyFrom 108 = .ok (.putfield 55, 3) := by decide +kernel
theorem dX4_copyFrom_111 : decode cX4_copyFrom 111 = .ok (.return_, 1) := by decide +kernel
theorem dX4_becomeSumOf_0 : decode cX4_becomeSumOf 0 = .ok (.aload_n 0, 1) := by decide +kernel
theorem dX4_becomeSumOf_1 : decode cX4_becomeSumOf 1 = .ok (.iconst 0, 1) := by decide +kernel
theorem dX4_becomeSumOf_2 : decode cX4_becomeSumOf 2 = .ok (.putfield 21, 3) := by decide +kernel
theorem dX4_becomeSumOf_5 : decode cX4_becomeSumOf 5 = .ok (.aload_n 0, 1) := by decide +kernel
theorem dX4_becomeSumOf_6 : decode cX4_becomeSumOf 6 = .ok (.iconst 0, 1) := by decide +kernel
theorem dX4_becomeSumOf_7 : decode cX4_becomeSumOf 7 = .ok (.putfield 28, 3) := by decide +kernel
theorem dX4_becomeSumOf_10 : decode cX4_becomeSumOf 10 = .ok (.aload_n 0, 1) := by decide +kernel
theorem dX4_becomeSumOf_11 : decode cX4_becomeSumOf 11 = .ok (.iconst 0, 1) := by decide +kernel
theorem dX4_becomeSumOf_12 : decode cX4_becomeSumOf 12 = .ok (.putfield 31, 3) := by decide +kernel
theorem dX4_becomeSumOf_15 : decode cX4_becomeSumOf 15 = .ok (.aload_n 0, 1) := by decide +kernel
theorem dX4_becomeSumOf_16 : decode cX4_becomeSumOf 16 = .ok (.iconst 0, 1) := by decide +kernel
theorem dX4_becomeSumOf_17 : decode cX4_becomeSumOf 17 = .ok (.putfield 34, 3) := by decide +kernel
theorem dX4_becomeSumOf_20 : decode cX4_becomeSumOf 20 = .ok (.aload_n 0, 1) := by decide +kernel
theorem dX4_becomeSumOf_21 : decode cX4_becomeSumOf 21 = .ok (.iconst 0, 1) := by decide +kernel
theorem dX4_becomeSumOf_22 : decode cX4_becomeSumOf 22 = .ok (.putfield 37, 3) := by decide +kernel
theorem dX4_becomeSumOf_25 : decode cX4_becomeSumOf 25 = .ok (.aload_n 0, 1) := by decide +kernel
theorem dX4_becomeSumOf_26 : decode cX4_becomeSumOf 26 = .ok (.iconst 0, 1) := by decide +kernel
theorem dX4_becomeSumOf_27 : decode cX4_becomeSumOf 27 = .ok (.putfield 49, 3) := by decide +kernel
theorem dX4_becomeSumOf_30 : decode cX4_becomeSumOf 30 = .ok (.iconst 0, 1) := by decide +kernel
theorem dX4_becomeSumOf_31 : decode cX4_becomeSumOf 31 = .ok (.istore_n 3, 1) := by decide +kernel
theorem dX4_becomeSumOf_32 : decode cX4_becomeSumOf 32 = .ok (.iload_n 3, 1) := by decide +kernel
theorem dX4_becomeSumOf_33 : decode cX4_becomeSumOf 33 = .ok (.iload_n 2, 1) := by decide +kernel
theorem dX4_becomeSumOf_34 : decode cX4_becomeSumOf 34 = .ok (.if_icmp .ge 99, 3) := by decide +kernel
theorem dX4_becomeSumOf_37 : decode cX4_becomeSumOf 37 = .ok (.aload_n 0, 1) := by decide +kernel
theorem dX4_becomeSumOf_38 : decode cX4_becomeSumOf 38 = .ok (.dup, 1) := by decide +kernel
theorem dX4_becomeSumOf_39 : decode cX4_becomeSumOf 39 = .ok (.getfield 21, 3) := by decide +kernel
theorem dX4_becomeSumOf_42 : decode cX4_becomeSumOf 42 = .ok (.aload_n 1, 1) := by decide +kernel
theorem dX4_becomeSumOf_43 : decode cX4_becomeSumOf 43 = .ok (.iload_n 3, 1) := by decide +kernel
theorem dX4_becomeSumOf_44 : decode cX4_becomeSumOf 44 = .ok (.aaload, 1) := by decide +kernel
theorem dX4_becomeSumOf_45 : decode cX4_becomeSumOf 45 = .ok (.getfield 21, 3) := by decide +kernel
theorem dX4_becomeSumOf_48 : decode cX4_becomeSumOf 48 = .ok (.iadd, 1) := by decide +kernel
theorem dX4_becomeSumOf_49 : decode cX4_becomeSumOf 49 = .ok (.putfield 21, 3) := by decide +kernel
theorem dX4_becomeSumOf_52 : decode cX4_becomeSumOf 52 = .ok (.aload_n 0, 1) := by decide +kernel
theorem dX4_becomeSumOf_53 : decode cX4_becomeSumOf 53 = .ok (.dup, 1) := by decide +kernel
theorem dX4_becomeSumOf_54 : decode cX4_becomeSumOf 54 = .ok (.getfield 28, 3) := by decide +kernel
theorem dX4_becomeSumOf_57 : decode cX4_becomeSumOf 57 = .ok (.aload_n 1, 1) := by decide +kernel
theorem dX4_becomeSumOf_58 : decode cX4_becomeSumOf 58 = .ok (.iload_n 3, 1) := by decide +kernel
theorem dX4_becomeSumOf_59 : decode cX4_becomeSumOf 59 = .ok (.aaload, 1) := by decide +kernel
theorem dX4_becomeSumOf_60 : decode cX4_becomeSumOf 60 = .ok (.getfield 28, 3) := by decide +kernel
theorem dX4_becomeSumOf_63 : decode cX4_becomeSumOf 63 = .ok (.iadd, 1) := by decide +kernel
theorem dX4_becomeSumOf_64 : decode cX4_becomeSumOf 64 = .ok (.putfield 28, 3) := by decide +kernel
theorem dX4_becomeSumOf_67 : decode cX4_becomeSumOf 67 = .ok (.aload_n 0, 1) := by decide +kernel
theorem dX4_becomeSumOf_68 : decode cX4_becomeSumOf 68 = .ok (.dup, 1) := by decide +kernel
theorem dX4_becomeSumOf_69 : decode cX4_becomeSumOf 69 = .ok (.getfield 31, 3) := by decide +kernel
theorem dX4_becomeSumOf_72 : decode cX4_becomeSumOf 72 = .ok (.aload_n 1, 1) := by decide +kernel
theorem dX4_becomeSumOf_73 : decode cX4_becomeSumOf 73 = .ok (.iload_n 3, 1) := by decide +kernel
theorem dX4_becomeSumOf_74 : decode cX4_becomeSumOf 74 = .ok (.aaload, 1) := by decide +kernel
theorem dX4_becomeSumOf_75 : decode cX4_becomeSumOf 75 = .ok (.getfield 31, 3) := by decide +kernel
theorem dX4_becomeSumOf_78 : decode cX4_becomeSumOf 78 = .ok (.iadd, 1) := by decide +kernel
theorem dX4_becomeSumOf_79 : decode cX4_becomeSumOf 79 = .ok (.putfield 31, 3) := by decide +kernel
theorem dX4_becomeSumOf_82 : decode cX4_becomeSumOf 82 = .ok (.aload_n 0, 1) := by decide +kernel
theorem dX4_becomeSumOf_83 : decode cX4_becomeSumOf 83 = .ok (.dup, 1) := by decide +kernel
theorem dX4_becomeSumOf_84 : decode cX4_becomeSumOf 84 = .ok (.getfield 34, 3) := by decide +kernel
theorem dX4_becomeSumOf_87 : decode cX4_becomeSumOf 87 = .ok (.aload_n 1, 1) := by decide +kernel
theorem dX4_becomeSumOf_88 : decode cX4_becomeSumOf 88 = .ok (.iload_n 3, 1) := by decide +kernel
theorem dX4_becomeSumOf_89 : decode cX4_becomeSumOf 89 = .ok (.aaload, 1) := by decide +kernel
theorem dX4_becomeSumOf_90 : decode cX4_becomeSumOf 90 = .ok (.getfield 34, 3) := by decide +kernel
theorem dX4_becomeSumOf_93 : decode cX4_becomeSumOf 93 = .ok (.iadd, 1) := by decide +kernel
theorem dX4_becomeSumOf_94 : decode cX4_becomeSumOf 94 = .ok (.putfield 34, 3) := by decide +kernel
theorem dX4_becomeSumOf_97 : decode cX4_becomeSumOf 97 = .ok (.aload_n 0, 1) := by decide +kernel
theorem dX4_becomeSumOf_98 : decode cX4_becomeSumOf 98 = .ok (.dup, 1) := by decide +kernel
theorem dX4_becomeSumOf_99 : decode cX4_becomeSumOf 99 = .ok (.getfield 37, 3) := by decide +kernel
theorem dX4_becomeSumOf_102 : decode cX4_becomeSumOf 102 = .ok (.aload_n 1, 1) := by decide +kernel
theorem dX4_becomeSumOf_103 : decode cX4_becomeSumOf 103 = .ok (.iload_n 3, 1) := by decide +kernel
theorem dX4_becomeSumOf_104 : decode cX4_becomeSumOf 104 = .ok (.aaload, 1) := by decide +kernel
theorem dX4_becomeSumOf_105 : decode cX4_becomeSumOf 105 = .ok (.getfield 37, 3) := by decide +kernel
theorem dX4_becomeSumOf_108 : decode cX4_becomeSumOf 108 = .ok (.iadd, 1) := by decide +kernel
theorem dX4_becomeSumOf_109 : decode cX4_becomeSumOf 109 = .ok (.putfield 37, 3) := by decide +kernel
theorem dX4_becomeSumOf_112 : decode cX4_becomeSumOf 112 = .ok (.aload_n 0, 1) := by decide +kernel
theorem dX4_becomeSumOf_113 : decode cX4_becomeSumOf 113 = .ok (.dup, 1) := by decide +kernel
theorem dX4_becomeSumOf_114 : decode cX4_becomeSumOf 114 = .ok (.getfield 49, 3) := by decide +kernel
theorem dX4_becomeSumOf_117 : decode cX4_becomeSumOf 117 = .ok (.aload_n 1, 1) := by decide +kernel
theorem dX4_becomeSumOf_118 : decode cX4_becomeSumOf 118 = .ok (.iload_n 3, 1) := by decide +kernel
theorem dX4_becomeSumOf_119 : decode cX4_becomeSumOf 119 = .ok (.aaload, 1) := by decide +kernel
theorem dX4_becomeSumOf_120 : decode cX4_becomeSumOf 120 = .ok (.getfield 49, 3) := by decide +kernel
theorem dX4_becomeSumOf_123 : decode cX4_becomeSumOf 123 = .ok (.iadd, 1) := by decide +kernel
theorem dX4_becomeSumOf_124 : decode cX4_becomeSumOf 124 = .ok (.putfield 49, 3) := by decide +kernel
theorem dX4_becomeSumOf_127 : decode cX4_becomeSumOf 127 = .ok (.iinc 3 1, 3) := by decide +kernel
theorem dX4_becomeSumOf_130 : decode cX4_becomeSumOf 130 = .ok (.goto (-98), 3) := by decide +kernel
theorem dX4_becomeSumOf_133 : decode cX4_becomeSumOf 133 = .ok (.return_, 1) := by decide +kernel
theorem dX4_serveQueue_0 : decode cX4_serveQueue 0 = .ok (.aload_n 0, 1) := by decide +kernel
theorem dX4_serveQueue_1 : decode cX4_serveQueue 1 = .ok (.getfield 21, 3) := by decide +kernel
theorem dX4_serveQueue_4 : decode cX4_serveQueue 4 = .ok (.iload_n 1, 1) := by decide +kernel
theorem dX4_serveQueue_5 : decode cX4_serveQueue 5 = .ok (.aload_n 0, 1) := by decide +kernel
theorem dX4_serveQueue_6 : decode cX4_serveQueue 6 = .ok (.getfield 34, 3) := by decide +kernel
theorem dX4_serveQueue_9 : decode cX4_serveQueue 9 = .ok (.invokestatic 58, 3) := by decide +kernel
theorem dX4_serveQueue_12 : decode cX4_serveQueue 12 = .ok (.invokestatic 58, 3) := by decide +kernel
theorem dX4_serveQueue_15 : decode cX4_serveQueue 15 = .ok (.istore_n 2, 1) := by decide +kernel
theorem dX4_serveQueue_16 : decode cX4_serveQueue 16 = .ok (.aload_n 0, 1) := by decide +kernel
theorem dX4_serveQueue_17 : decode cX4_serveQueue 17 = .ok (.dup, 1) := by decide +kernel
theorem dX4_serveQueue_18 : decode cX4_serveQueue 18 = .ok (.getfield 21, 3) := by decide +kernel
theorem dX4_serveQueue_21 : decode cX4_serveQueue 21 = .ok (.iload_n 2, 1) := by decide +kernel
theorem dX4_serveQueue_22 : decode cX4_serveQueue 22 = .ok (.isub, 1) := by decide +kernel
theorem dX4_serveQueue_23 : decode cX4_serveQueue 23 = .ok (.putfield 21, 3) := by decide +kernel
theorem dX4_serveQueue_26 : decode cX4_serveQueue 26 = .ok (.aload_n 0, 1) := by decide +kernel
theorem dX4_serveQueue_27 : decode cX4_serveQueue 27 = .ok (.dup, 1) := by decide +kernel
theorem dX4_serveQueue_28 : decode cX4_serveQueue 28 = .ok (.getfield 34, 3) := by decide +kernel
theorem dX4_serveQueue_31 : decode cX4_serveQueue 31 = .ok (.iload_n 2, 1) := by decide +kernel
theorem dX4_serveQueue_32 : decode cX4_serveQueue 32 = .ok (.isub, 1) := by decide +kernel
theorem dX4_serveQueue_33 : decode cX4_serveQueue 33 = .ok (.putfield 34, 3) := by decide +kernel
theorem dX4_serveQueue_36 : decode cX4_serveQueue 36 = .ok (.aload_n 0, 1) := by decide +kernel
theorem dX4_serveQueue_37 : decode cX4_serveQueue 37 = .ok (.dup, 1) := by decide +kernel
theorem dX4_serveQueue_38 : decode cX4_serveQueue 38 = .ok (.getfield 28, 3) := by decide +kernel
theorem dX4_serveQueue_41 : decode cX4_serveQueue 41 = .ok (.iload_n 2, 1) := by decide +kernel
theorem dX4_serveQueue_42 : decode cX4_serveQueue 42 = .ok (.iadd, 1) := by decide +kernel
theorem dX4_serveQueue_43 : decode cX4_serveQueue 43 = .ok (.putfield 28, 3) := by decide +kernel
theorem dX4_serveQueue_46 : decode cX4_serveQueue 46 = .ok (.aload_n 0, 1) := by decide +kernel
theorem dX4_serveQueue_47 : decode cX4_serveQueue 47 = .ok (.dup, 1) := by decide +kernel
theorem dX4_serveQueue_48 : decode cX4_serveQueue 48 = .ok (.getfield 37, 3) := by decide +kernel
theorem dX4_serveQueue_51 : decode cX4_serveQueue 51 = .ok (.iload_n 2, 1) := by decide +kernel
theorem dX4_serveQueue_52 : decode cX4_serveQueue 52 = .ok (.iadd, 1) := by decide +kernel
theorem dX4_serveQueue_53 : decode cX4_serveQueue 53 = .ok (.putfield 37, 3) := by decide +kernel
theorem dX4_serveQueue_56 : decode cX4_serveQueue 56 = .ok (.aload_n 0, 1) := by decide +kernel
theorem dX4_serveQueue_57 : decode cX4_serveQueue 57 = .ok (.dup, 1) := by decide +kernel
theorem dX4_serveQueue_58 : decode cX4_serveQueue 58 = .ok (.getfield 49, 3) := by decide +kernel
theorem dX4_serveQueue_61 : decode cX4_serveQueue 61 = .ok (.iload_n 2, 1) := by decide +kernel
theorem dX4_serveQueue_62 : decode cX4_serveQueue 62 = .ok (.iadd, 1) := by decide +kernel
theorem dX4_serveQueue_63 : decode cX4_serveQueue 63 = .ok (.putfield 49, 3) := by decide +kernel
theorem dX4_serveQueue_66 : decode cX4_serveQueue 66 = .ok (.aload_n 0, 1) := by decide +kernel
theorem dX4_serveQueue_67 : decode cX4_serveQueue 67 = .ok (.dup, 1) := by decide +kernel
theorem dX4_serveQueue_68 : decode cX4_serveQueue 68 = .ok (.getfield 31, 3) := by decide +kernel
theorem dX4_serveQueue_71 : decode cX4_serveQueue 71 = .ok (.aload_n 0, 1) := by decide +kernel
theorem dX4_serveQueue_72 : decode cX4_serveQueue 72 = .ok (.getfield 21, 3) := by decide +kernel
theorem dX4_serveQueue_75 : decode cX4_serveQueue 75 = .ok (.iadd, 1) := by decide +kernel
theorem dX4_serveQueue_76 : decode cX4_serveQueue 76 = .ok (.putfield 31, 3) := by decide +kernel
theorem dX4_serveQueue_79 : decode cX4_serveQueue 79 = .ok (.aload_n 0, 1) := by decide +kernel
theorem dX4_serveQueue_80 : decode cX4_serveQueue 80 = .ok (.aload_n 0, 1) := by decide +kernel
theorem dX4_serveQueue_81 : decode cX4_serveQueue 81 = .ok (.getfield 25, 3) := by decide +kernel
theorem dX4_serveQueue_84 : decode cX4_serveQueue 84 = .ok (.aload_n 0, 1) := by decide +kernel
theorem dX4_serveQueue_85 : decode cX4_serveQueue 85 = .ok (.getfield 21, 3) := by decide +kernel
theorem dX4_serveQueue_88 : decode cX4_serveQueue 88 = .ok (.invokestatic 64, 3) := by decide +kernel
theorem dX4_serveQueue_91 : decode cX4_serveQueue 91 = .ok (.putfield 25, 3) := by decide +kernel
theorem dX4_serveQueue_94 : decode cX4_serveQueue 94 = .ok (.iload_n 2, 1) := by decide +kernel
theorem dX4_serveQueue_95 : decode cX4_serveQueue 95 = .ok (.ireturn, 1) := by decide +kernel
theorem dX4_allArrivals_0 : decode cX4_allArrivals 0 = .ok (.iconst 0, 1) := by decide +kernel
theorem dX4_allArrivals_1 : decode cX4_allArrivals 1 = .ok (.istore_n 1, 1) := by decide +kernel
theorem dX4_allArrivals_2 : decode cX4_allArrivals 2 = .ok (.iconst 0, 1) := by decide +kernel
theorem dX4_allArrivals_3 : decode cX4_allArrivals 3 = .ok (.istore_n 2, 1) := by decide +kernel
theorem dX4_allArrivals_4 : decode cX4_allArrivals 4 = .ok (.iload_n 2, 1) := by decide +kernel
theorem dX4_allArrivals_5 : decode cX4_allArrivals 5 = .ok (.bipush 15, 2) := by decide +kernel
theorem dX4_allArrivals_7 : decode cX4_allArrivals 7 = .ok (.if_icmp .ge 18, 3) := by decide +kernel
theorem dX4_allArrivals_10 : decode cX4_allArrivals 10 = .ok (.iload_n 1, 1) := by decide +kernel
theorem dX4_allArrivals_11 : decode cX4_allArrivals 11 = .ok (.aload_n 0, 1) := by decide +kernel
theorem dX4_allArrivals_12 : decode cX4_allArrivals 12 = .ok (.getfield 9, 3) := by decide +kernel
theorem dX4_allArrivals_15 : decode cX4_allArrivals 15 = .ok (.iload_n 2, 1) := by decide +kernel
theorem dX4_allArrivals_16 : decode cX4_allArrivals 16 = .ok (.iaload, 1) := by decide +kernel
theorem dX4_allArrivals_17 : decode cX4_allArrivals 17 = .ok (.iadd, 1) := by decide +kernel
theorem dX4_allArrivals_18 : decode cX4_allArrivals 18 = .ok (.istore_n 1, 1) := by decide +kernel
theorem dX4_allArrivals_19 : decode cX4_allArrivals 19 = .ok (.iinc 2 1, 3) := by decide +kernel
theorem dX4_allArrivals_22 : decode cX4_allArrivals 22 = .ok (.goto (-18), 3) := by decide +kernel
theorem dX4_allArrivals_25 : decode cX4_allArrivals 25 = .ok (.iload_n 1, 1) := by decide +kernel
theorem dX4_allArrivals_26 : decode cX4_allArrivals 26 = .ok (.ireturn, 1) := by decide +kernel
theorem dX4_isCounted_0 : decode cX4_isCounted 0 = .ok (.aload_n 0, 1) := by decide +kernel
theorem dX4_isCounted_1 : decode cX4_isCounted 1 = .ok (.getfield 55, 3) := by decide +kernel
theorem dX4_isCounted_4 : decode cX4_isCounted 4 = .ok (.ifCond .le 7, 3) := by decide +kernel
theorem dX4_isCounted_7 : decode cX4_isCounted 7 = .ok (.iconst 1, 1) := by decide +kernel
theorem dX4_isCounted_8 : decode cX4_isCounted 8 = .ok (.goto 4, 3) := by decide +kernel
theorem dX4_isCounted_11 : decode cX4_isCounted 11 = .ok (.iconst 0, 1) := by decide +kernel
theorem dX4_isCounted_12 : decode cX4_isCounted 12 = .ok (.ireturn, 1) := by decide +kernel
theorem dX4_countAgrees_0 : decode cX4_countAgrees 0 = .ok (.aload_n 0, 1) := by decide +kernel
theorem dX4_countAgrees_1 : decode cX4_countAgrees 1 = .ok (.getfield 52, 3) := by decide +kernel
theorem dX4_countAgrees_4 : decode cX4_countAgrees 4 = .ok (.aload_n 0, 1) := by decide +kernel
theorem dX4_countAgrees_5 : decode cX4_countAgrees 5 = .ok (.getfield 49, 3) := by decide +kernel
theorem dX4_countAgrees_8 : decode cX4_countAgrees 8 = .ok (.if_icmp .ne 7, 3) := by decide +kernel
theorem dX4_countAgrees_11 : decode cX4_countAgrees 11 = .ok (.iconst 1, 1) := by decide +kernel
theorem dX4_countAgrees_12 : decode cX4_countAgrees 12 = .ok (.goto 4, 3) := by decide +kernel
theorem dX4_countAgrees_15 : decode cX4_countAgrees 15 = .ok (.iconst 0, 1) := by decide +kernel
theorem dX4_countAgrees_16 : decode cX4_countAgrees 16 = .ok (.ireturn, 1) := by decide +kernel
theorem dX5_init_0 : decode cX5_init 0 = .ok (.aload_n 0, 1) := by decide +kernel
theorem dX5_init_1 : decode cX5_init 1 = .ok (.invokespecial 3, 3) := by decide +kernel
theorem dX5_init_4 : decode cX5_init 4 = .ok (.aload_n 0, 1) := by decide +kernel
theorem dX5_init_5 : decode cX5_init 5 = .ok (.new 9, 3) := by decide +kernel
theorem dX5_init_8 : decode cX5_init 8 = .ok (.dup, 1) := by decide +kernel
theorem dX5_init_9 : decode cX5_init 9 = .ok (.invokespecial 11, 3) := by decide +kernel
theorem dX5_init_12 : decode cX5_init 12 = .ok (.putfield 12, 3) := by decide +kernel
theorem dX5_init_15 : decode cX5_init 15 = .ok (.aload_n 0, 1) := by decide +kernel
theorem dX5_init_16 : decode cX5_init 16 = .ok (.new 9, 3) := by decide +kernel
theorem dX5_init_19 : decode cX5_init 19 = .ok (.dup, 1) := by decide +kernel
theorem dX5_init_20 : decode cX5_init 20 = .ok (.invokespecial 11, 3) := by decide +kernel
theorem dX5_init_23 : decode cX5_init 23 = .ok (.putfield 16, 3) := by decide +kernel
theorem dX5_init_26 : decode cX5_init 26 = .ok (.aload_n 0, 1) := by decide +kernel
theorem dX5_init_27 : decode cX5_init 27 = .ok (.new 9, 3) := by decide +kernel
theorem dX5_init_30 : decode cX5_init 30 = .ok (.dup, 1) := by decide +kernel
theorem dX5_init_31 : decode cX5_init 31 = .ok (.invokespecial 11, 3) := by decide +kernel
theorem dX5_init_34 : decode cX5_init 34 = .ok (.putfield 19, 3) := by decide +kernel
theorem dX5_init_37 : decode cX5_init 37 = .ok (.aload_n 0, 1) := by decide +kernel
theorem dX5_init_38 : decode cX5_init 38 = .ok (.new 22, 3) := by decide +kernel
theorem dX5_init_41 : decode cX5_init 41 = .ok (.dup, 1) := by decide +kernel
theorem dX5_init_42 : decode cX5_init 42 = .ok (.invokespecial 24, 3) := by decide +kernel
theorem dX5_init_45 : decode cX5_init 45 = .ok (.putfield 25, 3) := by decide +kernel
theorem dX5_init_48 : decode cX5_init 48 = .ok (.aload_n 0, 1) := by decide +kernel
theorem dX5_init_49 : decode cX5_init 49 = .ok (.new 29, 3) := by decide +kernel
theorem dX5_init_52 : decode cX5_init 52 = .ok (.dup, 1) := by decide +kernel
theorem dX5_init_53 : decode cX5_init 53 = .ok (.invokespecial 31, 3) := by decide +kernel
theorem dX5_init_56 : decode cX5_init 56 = .ok (.putfield 32, 3) := by decide +kernel
theorem dX5_init_59 : decode cX5_init 59 = .ok (.aload_n 0, 1) := by decide +kernel
theorem dX5_init_60 : decode cX5_init 60 = .ok (.new 36, 3) := by decide +kernel
theorem dX5_init_63 : decode cX5_init 63 = .ok (.dup, 1) := by decide +kernel
theorem dX5_init_64 : decode cX5_init 64 = .ok (.invokespecial 38, 3) := by decide +kernel
theorem dX5_init_67 : decode cX5_init 67 = .ok (.putfield 39, 3) := by decide +kernel
theorem dX5_init_70 : decode cX5_init 70 = .ok (.return_, 1) := by decide +kernel
theorem dX5_addStation_0 : decode cX5_addStation 0 = .ok (.aload_n 0, 1) := by decide +kernel
theorem dX5_addStation_1 : decode cX5_addStation 1 = .ok (.getfield 12, 3) := by decide +kernel
theorem dX5_addStation_4 : decode cX5_addStation 4 = .ok (.getfield 43, 3) := by decide +kernel
theorem dX5_addStation_7 : decode cX5_addStation 7 = .ok (.bipush 6, 2) := by decide +kernel
theorem dX5_addStation_9 : decode cX5_addStation 9 = .ok (.if_icmp .lt 6, 3) := by decide +kernel
theorem dX5_addStation_12 : decode cX5_addStation 12 = .ok (.bipush (-3), 2) := by decide +kernel
theorem dX5_addStation_14 : decode cX5_addStation 14 = .ok (.ireturn, 1) := by decide +kernel
theorem dX5_addStation_15 : decode cX5_addStation 15 = .ok (.aload_n 0, 1) := by decide +kernel
theorem dX5_addStation_16 : decode cX5_addStation 16 = .ok (.getfield 32, 3) := by decide +kernel
theorem dX5_addStation_19 : decode cX5_addStation 19 = .ok (.aload_n 0, 1) := by decide +kernel
theorem dX5_addStation_20 : decode cX5_addStation 20 = .ok (.getfield 12, 3) := by decide +kernel
theorem dX5_addStation_23 : decode cX5_addStation 23 = .ok (.invokevirtual 47, 3) := by decide +kernel
theorem dX5_addStation_26 : decode cX5_addStation 26 = .ok (.aload_n 0, 1) := by decide +kernel
theorem dX5_addStation_27 : decode cX5_addStation 27 = .ok (.getfield 12, 3) := by decide +kernel
theorem dX5_addStation_30 : decode cX5_addStation 30 = .ok (.dup, 1) := by decide +kernel
theorem dX5_addStation_31 : decode cX5_addStation 31 = .ok (.getfield 43, 3) := by decide +kernel
theorem dX5_addStation_34 : decode cX5_addStation 34 = .ok (.iconst 1, 1) := by decide +kernel
theorem dX5_addStation_35 : decode cX5_addStation 35 = .ok (.iadd, 1) := by decide +kernel
theorem dX5_addStation_36 : decode cX5_addStation 36 = .ok (.putfield 43, 3) := by decide +kernel
theorem dX5_addStation_39 : decode cX5_addStation 39 = .ok (.aload_n 0, 1) := by decide +kernel
theorem dX5_addStation_40 : decode cX5_addStation 40 = .ok (.getfield 12, 3) := by decide +kernel
theorem dX5_addStation_43 : decode cX5_addStation 43 = .ok (.getfield 43, 3) := by decide +kernel
theorem dX5_addStation_46 : decode cX5_addStation 46 = .ok (.iconst 1, 1) := by decide +kernel
theorem dX5_addStation_47 : decode cX5_addStation 47 = .ok (.isub, 1) := by decide +kernel
theorem dX5_addStation_48 : decode cX5_addStation 48 = .ok (.ireturn, 1) := by decide +kernel
theorem dX5_addClerk_0 : decode cX5_addClerk 0 = .ok (.iload_n 1, 1) := by decide +kernel
theorem dX5_addClerk_1 : decode cX5_addClerk 1 = .ok (.iconst 1, 1) := by decide +kernel
theorem dX5_addClerk_2 : decode cX5_addClerk 2 = .ok (.bipush 60, 2) := by decide +kernel
theorem dX5_addClerk_4 : decode cX5_addClerk 4 = .ok (.invokestatic 51, 3) := by decide +kernel
theorem dX5_addClerk_7 : decode cX5_addClerk 7 = .ok (.ifCond .eq 13, 3) := by decide +kernel
theorem dX5_addClerk_10 : decode cX5_addClerk 10 = .ok (.iload_n 2, 1) := by decide +kernel
theorem dX5_addClerk_11 : decode cX5_addClerk 11 = .ok (.iconst 1, 1) := by decide +kernel
theorem dX5_addClerk_12 : decode cX5_addClerk 12 = .ok (.bipush 6, 2) := by decide +kernel
theorem dX5_addClerk_14 : decode cX5_addClerk 14 = .ok (.invokestatic 51, 3) := by decide +kernel
theorem dX5_addClerk_17 : decode cX5_addClerk 17 = .ok (.ifCond .ne 6, 3) := by decide +kernel
theorem dX5_addClerk_20 : decode cX5_addClerk 20 = .ok (.bipush (-2), 2) := by decide +kernel
theorem dX5_addClerk_22 : decode cX5_addClerk 22 = .ok (.ireturn, 1) := by decide +kernel
theorem dX5_addClerk_23 : decode cX5_addClerk 23 = .ok (.aload_n 0, 1) := by decide +kernel
theorem dX5_addClerk_24 : decode cX5_addClerk 24 = .ok (.getfield 12, 3) := by decide +kernel
theorem dX5_addClerk_27 : decode cX5_addClerk 27 = .ok (.getfield 55, 3) := by decide +kernel
theorem dX5_addClerk_30 : decode cX5_addClerk 30 = .ok (.bipush 12, 2) := by decide +kernel
theorem dX5_addClerk_32 : decode cX5_addClerk 32 = .ok (.if_icmp .lt 6, 3) := by decide +kernel
theorem dX5_addClerk_35 : decode cX5_addClerk 35 = .ok (.bipush (-3), 2) := by decide +kernel
theorem dX5_addClerk_37 : decode cX5_addClerk 37 = .ok (.ireturn, 1) := by decide +kernel
theorem dX5_addClerk_38 : decode cX5_addClerk 38 = .ok (.aload_n 0, 1) := by decide +kernel
theorem dX5_addClerk_39 : decode cX5_addClerk 39 = .ok (.getfield 32, 3) := by decide +kernel
theorem dX5_addClerk_42 : decode cX5_addClerk 42 = .ok (.aload_n 0, 1) := by decide +kernel
theorem dX5_addClerk_43 : decode cX5_addClerk 43 = .ok (.getfield 12, 3) := by decide +kernel
theorem dX5_addClerk_46 : decode cX5_addClerk 46 = .ok (.invokevirtual 47, 3) := by decide +kernel
theorem dX5_addClerk_49 : decode cX5_addClerk 49 = .ok (.aload_n 0, 1) := by decide +kernel
theorem dX5_addClerk_50 : decode cX5_addClerk 50 = .ok (.getfield 12, 3) := by decide +kernel
theorem dX5_addClerk_53 : decode cX5_addClerk 53 = .ok (.iload_n 1, 1) := by decide +kernel
theorem dX5_addClerk_54 : decode cX5_addClerk 54 = .ok (.iload_n 2, 1) := by decide +kernel
theorem dX5_addClerk_55 : decode cX5_addClerk 55 = .ok (.invokevirtual 58, 3) := by decide +kernel
theorem dX5_addClerk_58 : decode cX5_addClerk 58 = .ok (.ireturn, 1) := by decide +kernel
theorem dX5_setArrivals_0 : decode cX5_setArrivals 0 = .ok (.aload_n 0, 1) := by decide +kernel
theorem dX5_setArrivals_1 : decode cX5_setArrivals 1 = .ok (.getfield 12, 3) := by decide +kernel
theorem dX5_setArrivals_4 : decode cX5_setArrivals 4 = .ok (.iload_n 1, 1) := by decide +kernel
theorem dX5_setArrivals_5 : decode cX5_setArrivals 5 = .ok (.invokevirtual 62, 3) := by decide +kernel
theorem dX5_setArrivals_8 : decode cX5_setArrivals 8 = .ok (.ifCond .ne 5, 3) := by decide +kernel
theorem dX5_setArrivals_11 : decode cX5_setArrivals 11 = .ok (.iconst (-1), 1) := by decide +kernel
theorem dX5_setArrivals_12 : decode cX5_setArrivals 12 = .ok (.ireturn, 1) := by decide +kernel
theorem dX5_setArrivals_13 : decode cX5_setArrivals 13 = .ok (.aload_n 0, 1) := by decide +kernel
theorem dX5_setArrivals_14 : decode cX5_setArrivals 14 = .ok (.iload_n 2, 1) := by decide +kernel
theorem dX5_setArrivals_15 : decode cX5_setArrivals 15 = .ok (.invokevirtual 66, 3) := by decide +kernel
theorem dX5_setArrivals_18 : decode cX5_setArrivals 18 = .ok (.ifCond .eq 14, 3) := by decide +kernel
theorem dX5_setArrivals_21 : decode cX5_setArrivals 21 = .ok (.iload_n 3, 1) := by decide +kernel
theorem dX5_setArrivals_22 : decode cX5_setArrivals 22 = .ok (.iconst 0, 1) := by decide +kernel
theorem dX5_setArrivals_23 : decode cX5_setArrivals 23 = .ok (.sipush 500, 3) := by decide +kernel
theorem dX5_setArrivals_26 : decode cX5_setArrivals 26 = .ok (.invokestatic 51, 3) := by decide +kernel
theorem dX5_setArrivals_29 : decode cX5_setArrivals 29 = .ok (.ifCond .ne 6, 3) := by decide +kernel
theorem dX5_setArrivals_32 : decode cX5_setArrivals 32 = .ok (.bipush (-2), 2) := by decide +kernel
theorem dX5_setArrivals_34 : decode cX5_setArrivals 34 = .ok (.ireturn, 1) := by decide +kernel
theorem dX5_setArrivals_35 : decode cX5_setArrivals 35 = .ok (.aload_n 0, 1) := by decide +kernel
theorem dX5_setArrivals_36 : decode cX5_setArrivals 36 = .ok (.getfield 12, 3) := by decide +kernel
theorem dX5_setArrivals_39 : decode cX5_setArrivals 39 = .ok (.getfield 69, 3) := by decide +kernel
theorem dX5_setArrivals_42 : decode cX5_setArrivals 42 = .ok (.iload_n 1, 1) := by decide +kernel
theorem dX5_setArrivals_43 : decode cX5_setArrivals 43 = .ok (.aaload, 1) := by decide +kernel
theorem dX5_setArrivals_44 : decode cX5_setArrivals 44 = .ok (.astore 4, 2) := by decide +kernel
theorem dX5_setArrivals_46 : decode cX5_setArrivals 46 = .ok (.aload 4, 2) := by decide +kernel
theorem dX5_setArrivals_48 : decode cX5_setArrivals 48 = .ok (.getfield 73, 3) := by decide +kernel
theorem dX5_setArrivals_51 : decode cX5_setArrivals 51 = .ok (.iload_n 2, 1) := by decide +kernel
theorem dX5_setArrivals_52 : decode cX5_setArrivals 52 = .ok (.iaload, 1) := by decide +kernel
theorem dX5_setArrivals_53 : decode cX5_setArrivals 53 = .ok (.istore 5, 2) := by decide +kernel
theorem dX5_setArrivals_55 : decode cX5_setArrivals 55 = .ok (.iload 5, 2) := by decide +kernel
theorem dX5_setArrivals_57 : decode cX5_setArrivals 57 = .ok (.iload_n 3, 1) := by decide +kernel
theorem dX5_setArrivals_58 : decode cX5_setArrivals 58 = .ok (.if_icmp .ne 6, 3) := by decide +kernel
theorem dX5_setArrivals_61 : decode cX5_setArrivals 61 = .ok (.bipush (-5), 2) := by decide +kernel
theorem dX5_setArrivals_63 : decode cX5_setArrivals 63 = .ok (.ireturn, 1) := by decide +kernel
theorem dX5_setArrivals_64 : decode cX5_setArrivals 64 = .ok (.aload_n 0, 1) := by decide +kernel
theorem dX5_setArrivals_65 : decode cX5_setArrivals 65 = .ok (.getfield 32, 3) := by decide +kernel
theorem dX5_setArrivals_68 : decode cX5_setArrivals 68 = .ok (.aload_n 0, 1) := by decide +kernel
theorem dX5_setArrivals_69 : decode cX5_setArrivals 69 = .ok (.getfield 12, 3) := by decide +kernel
theorem dX5_setArrivals_72 : decode cX5_setArrivals 72 = .ok (.invokevirtual 47, 3) := by decide +kernel
theorem dX5_setArrivals_75 : decode cX5_setArrivals 75 = .ok (.aload 4, 2) := by decide +kernel
theorem dX5_setArrivals_77 : decode cX5_setArrivals 77 = .ok (.getfield 73, 3) := by decide +kernel
theorem dX5_setArrivals_80 : decode cX5_setArrivals 80 = .ok (.iload_n 2, 1) := by decide +kernel
theorem dX5_setArrivals_81 : decode cX5_setArrivals 81 = .ok (.iload_n 3, 1) := by decide +kernel
theorem dX5_setArrivals_82 : decode cX5_setArrivals 82 = .ok (.iastore, 1) := by decide +kernel
theorem dX5_setArrivals_83 : decode cX5_setArrivals 83 = .ok (.iload 5, 2) := by decide +kernel
theorem dX5_setArrivals_85 : decode cX5_setArrivals 85 = .ok (.ireturn, 1) := by decide +kernel
theorem dX5_assign_0 : decode cX5_assign 0 = .ok (.aload_n 0, 1) := by decide +kernel
theorem dX5_assign_1 : decode cX5_assign 1 = .ok (.getfield 12, 3) := by decide +kernel
theorem dX5_assign_4 : decode cX5_assign 4 = .ok (.iload_n 1, 1) := by decide +kernel
theorem dX5_assign_5 : decode cX5_assign 5 = .ok (.invokevirtual 77, 3) := by decide +kernel
theorem dX5_assign_8 : decode cX5_assign 8 = .ok (.ifCond .eq 14, 3) := by decide +kernel
theorem dX5_assign_11 : decode cX5_assign 11 = .ok (.aload_n 0, 1) := by decide +kernel
theorem dX5_assign_12 : decode cX5_assign 12 = .ok (.getfield 12, 3) := by decide +kernel
theorem dX5_assign_15 : decode cX5_assign 15 = .ok (.iload_n 2, 1) := by decide +kernel
theorem dX5_assign_16 : decode cX5_assign 16 = .ok (.invokevirtual 62, 3) := by decide +kernel
theorem dX5_assign_19 : decode cX5_assign 19 = .ok (.ifCond .ne 5, 3) := by decide +kernel
theorem dX5_assign_22 : decode cX5_assign 22 = .ok (.iconst (-1), 1) := by decide +kernel
theorem dX5_assign_23 : decode cX5_assign 23 = .ok (.ireturn, 1) := by decide +kernel
theorem dX5_assign_24 : decode cX5_assign 24 = .ok (.aload_n 0, 1) := by decide +kernel
theorem dX5_assign_25 : decode cX5_assign 25 = .ok (.getfield 12, 3) := by decide +kernel
theorem dX5_assign_28 : decode cX5_assign 28 = .ok (.getfield 80, 3) := by decide +kernel
theorem dX5_assign_31 : decode cX5_assign 31 = .ok (.iload_n 1, 1) := by decide +kernel
theorem dX5_assign_32 : decode cX5_assign 32 = .ok (.aaload, 1) := by decide +kernel
theorem dX5_assign_33 : decode cX5_assign 33 = .ok (.invokevirtual 84, 3) := by decide +kernel
theorem dX5_assign_36 : decode cX5_assign 36 = .ok (.ifCond .ne 6, 3) := by decide +kernel
theorem dX5_assign_39 : decode cX5_assign 39 = .ok (.bipush (-4), 2) := by decide +kernel
theorem dX5_assign_41 : decode cX5_assign 41 = .ok (.ireturn, 1) := by decide +kernel
theorem dX5_assign_42 : decode cX5_assign 42 = .ok (.aload_n 0, 1) := by decide +kernel
theorem dX5_assign_43 : decode cX5_assign 43 = .ok (.getfield 32, 3) := by decide +kernel
theorem dX5_assign_46 : decode cX5_assign 46 = .ok (.aload_n 0, 1) := by decide +kernel
theorem dX5_assign_47 : decode cX5_assign 47 = .ok (.getfield 12, 3) := by decide +kernel
theorem dX5_assign_50 : decode cX5_assign 50 = .ok (.invokevirtual 47, 3) := by decide +kernel
theorem dX5_assign_53 : decode cX5_assign 53 = .ok (.aload_n 0, 1) := by decide +kernel
theorem dX5_assign_54 : decode cX5_assign 54 = .ok (.getfield 12, 3) := by decide +kernel
theorem dX5_assign_57 : decode cX5_assign 57 = .ok (.getfield 80, 3) := by decide +kernel
theorem dX5_assign_60 : decode cX5_assign 60 = .ok (.iload_n 1, 1) := by decide +kernel
theorem dX5_assign_61 : decode cX5_assign 61 = .ok (.aaload, 1) := by decide +kernel
theorem dX5_assign_62 : decode cX5_assign 62 = .ok (.iload_n 2, 1) := by decide +kernel
theorem dX5_assign_63 : decode cX5_assign 63 = .ok (.invokevirtual 90, 3) := by decide +kernel
theorem dX5_assign_66 : decode cX5_assign 66 = .ok (.aload_n 0, 1) := by decide +kernel
theorem dX5_assign_67 : decode cX5_assign 67 = .ok (.getfield 12, 3) := by decide +kernel
theorem dX5_assign_70 : decode cX5_assign 70 = .ok (.iload_n 2, 1) := by decide +kernel
theorem dX5_assign_71 : decode cX5_assign 71 = .ok (.invokevirtual 94, 3) := by decide +kernel
theorem dX5_assign_74 : decode cX5_assign 74 = .ok (.ireturn, 1) := by decide +kernel
theorem dX5_relieve_0 : decode cX5_relieve 0 = .ok (.aload_n 0, 1) := by decide +kernel
theorem dX5_relieve_1 : decode cX5_relieve 1 = .ok (.getfield 12, 3) := by decide +kernel
theorem dX5_relieve_4 : decode cX5_relieve 4 = .ok (.iload_n 1, 1) := by decide +kernel
theorem dX5_relieve_5 : decode cX5_relieve 5 = .ok (.invokevirtual 77, 3) := by decide +kernel
theorem dX5_relieve_8 : decode cX5_relieve 8 = .ok (.ifCond .ne 5, 3) := by decide +kernel
theorem dX5_relieve_11 : decode cX5_relieve 11 = .ok (.iconst (-1), 1) := by decide +kernel
theorem dX5_relieve_12 : decode cX5_relieve 12 = .ok (.ireturn, 1) := by decide +kernel
theorem dX5_relieve_13 : decode cX5_relieve 13 = .ok (.aload_n 0, 1) := by decide +kernel
theorem dX5_relieve_14 : decode cX5_relieve 14 = .ok (.getfield 12, 3) := by decide +kernel
theorem dX5_relieve_17 : decode cX5_relieve 17 = .ok (.getfield 80, 3) := by decide +kernel
theorem dX5_relieve_20 : decode cX5_relieve 20 = .ok (.iload_n 1, 1) := by decide +kernel
theorem dX5_relieve_21 : decode cX5_relieve 21 = .ok (.aaload, 1) := by decide +kernel
theorem dX5_relieve_22 : decode cX5_relieve 22 = .ok (.invokevirtual 98, 3) := by decide +kernel
theorem dX5_relieve_25 : decode cX5_relieve 25 = .ok (.ifCond .ne 6, 3) := by decide +kernel
theorem dX5_relieve_28 : decode cX5_relieve 28 = .ok (.bipush (-5), 2) := by decide +kernel
theorem dX5_relieve_30 : decode cX5_relieve 30 = .ok (.ireturn, 1) := by decide +kernel
theorem dX5_relieve_31 : decode cX5_relieve 31 = .ok (.aload_n 0, 1) := by decide +kernel
theorem dX5_relieve_32 : decode cX5_relieve 32 = .ok (.getfield 32, 3) := by decide +kernel
theorem dX5_relieve_35 : decode cX5_relieve 35 = .ok (.aload_n 0, 1) := by decide +kernel
theorem dX5_relieve_36 : decode cX5_relieve 36 = .ok (.getfield 12, 3) := by decide +kernel
theorem dX5_relieve_39 : decode cX5_relieve 39 = .ok (.invokevirtual 47, 3) := by decide +kernel
theorem dX5_relieve_42 : decode cX5_relieve 42 = .ok (.aload_n 0, 1) := by decide +kernel
theorem dX5_relieve_43 : decode cX5_relieve 43 = .ok (.getfield 12, 3) := by decide +kernel
theorem dX5_relieve_46 : decode cX5_relieve 46 = .ok (.getfield 80, 3) := by decide +kernel
theorem dX5_relieve_49 : decode cX5_relieve 49 = .ok (.iload_n 1, 1) := by decide +kernel
theorem dX5_relieve_50 : decode cX5_relieve 50 = .ok (.aaload, 1) := by decide +kernel
theorem dX5_relieve_51 : decode cX5_relieve 51 = .ok (.getfield 101, 3) := by decide +kernel
theorem dX5_relieve_54 : decode cX5_relieve 54 = .ok (.istore_n 2, 1) := by decide +kernel
theorem dX5_relieve_55 : decode cX5_relieve 55 = .ok (.aload_n 0, 1) := by decide +kernel
theorem dX5_relieve_56 : decode cX5_relieve 56 = .ok (.getfield 12, 3) := by decide +kernel
theorem dX5_relieve_59 : decode cX5_relieve 59 = .ok (.getfield 80, 3) := by decide +kernel
theorem dX5_relieve_62 : decode cX5_relieve 62 = .ok (.iload_n 1, 1) := by decide +kernel
theorem dX5_relieve_63 : decode cX5_relieve 63 = .ok (.aaload, 1) := by decide +kernel
theorem dX5_relieve_64 : decode cX5_relieve 64 = .ok (.iconst 1, 1) := by decide +kernel
theorem dX5_relieve_65 : decode cX5_relieve 65 = .ok (.invokevirtual 104, 3) := by decide +kernel
theorem dX5_relieve_68 : decode cX5_relieve 68 = .ok (.iload_n 2, 1) := by decide +kernel
theorem dX5_relieve_69 : decode cX5_relieve 69 = .ok (.ireturn, 1) := by decide +kernel
theorem dX5_pass_0 : decode cX5_pass 0 = .ok (.iload_n 1, 1) := by decide +kernel
theorem dX5_pass_1 : decode cX5_pass 1 = .ok (.iconst 1, 1) := by decide +kernel
theorem dX5_pass_2 : decode cX5_pass 2 = .ok (.bipush 18, 2) := by decide +kernel
theorem dX5_pass_4 : decode cX5_pass 4 = .ok (.invokestatic 51, 3) := by decide +kernel
theorem dX5_pass_7 : decode cX5_pass 7 = .ok (.ifCond .ne 6, 3) := by decide +kernel
theorem dX5_pass_10 : decode cX5_pass 10 = .ok (.bipush (-2), 2) := by decide +kernel
theorem dX5_pass_12 : decode cX5_pass 12 = .ok (.ireturn, 1) := by decide +kernel
theorem dX5_pass_13 : decode cX5_pass 13 = .ok (.aload_n 0, 1) := by decide +kernel
theorem dX5_pass_14 : decode cX5_pass 14 = .ok (.getfield 12, 3) := by decide +kernel
theorem dX5_pass_17 : decode cX5_pass 17 = .ok (.getfield 107, 3) := by decide +kernel
theorem dX5_pass_20 : decode cX5_pass 20 = .ok (.iload_n 1, 1) := by decide +kernel
theorem dX5_pass_21 : decode cX5_pass 21 = .ok (.iadd, 1) := by decide +kernel
theorem dX5_pass_22 : decode cX5_pass 22 = .ok (.bipush 18, 2) := by decide +kernel
theorem dX5_pass_24 : decode cX5_pass 24 = .ok (.if_icmp .le 6, 3) := by decide +kernel
theorem dX5_pass_27 : decode cX5_pass 27 = .ok (.bipush (-4), 2) := by decide +kernel
theorem dX5_pass_29 : decode cX5_pass 29 = .ok (.ireturn, 1) := by decide +kernel
theorem dX5_pass_30 : decode cX5_pass 30 = .ok (.aload_n 0, 1) := by decide +kernel
theorem dX5_pass_31 : decode cX5_pass 31 = .ok (.getfield 32, 3) := by decide +kernel
theorem dX5_pass_34 : decode cX5_pass 34 = .ok (.aload_n 0, 1) := by decide +kernel
theorem dX5_pass_35 : decode cX5_pass 35 = .ok (.getfield 12, 3) := by decide +kernel
theorem dX5_pass_38 : decode cX5_pass 38 = .ok (.invokevirtual 47, 3) := by decide +kernel
theorem dX5_pass_41 : decode cX5_pass 41 = .ok (.aload_n 0, 1) := by decide +kernel
theorem dX5_pass_42 : decode cX5_pass 42 = .ok (.getfield 12, 3) := by decide +kernel
theorem dX5_pass_45 : decode cX5_pass 45 = .ok (.iload_n 1, 1) := by decide +kernel
theorem dX5_pass_46 : decode cX5_pass 46 = .ok (.invokevirtual 110, 3) := by decide +kernel
theorem dX5_pass_49 : decode cX5_pass 49 = .ok (.ireturn, 1) := by decide +kernel
theorem dX5_supply_0 : decode cX5_supply 0 = .ok (.aload_n 0, 1) := by decide +kernel
theorem dX5_supply_1 : decode cX5_supply 1 = .ok (.getfield 12, 3) := by decide +kernel
theorem dX5_supply_4 : decode cX5_supply 4 = .ok (.iload_n 1, 1) := by decide +kernel
theorem dX5_supply_5 : decode cX5_supply 5 = .ok (.invokevirtual 62, 3) := by decide +kernel
theorem dX5_supply_8 : decode cX5_supply 8 = .ok (.ifCond .ne 5, 3) := by decide +kernel
theorem dX5_supply_11 : decode cX5_supply 11 = .ok (.iconst (-1), 1) := by decide +kernel
theorem dX5_supply_12 : decode cX5_supply 12 = .ok (.ireturn, 1) := by decide +kernel
theorem dX5_supply_13 : decode cX5_supply 13 = .ok (.iload_n 2, 1) := by decide +kernel
theorem dX5_supply_14 : decode cX5_supply 14 = .ok (.invokestatic 113, 3) := by decide +kernel
theorem dX5_supply_17 : decode cX5_supply 17 = .ok (.ifCond .ne 6, 3) := by decide +kernel
theorem dX5_supply_20 : decode cX5_supply 20 = .ok (.bipush (-2), 2) := by decide +kernel
theorem dX5_supply_22 : decode cX5_supply 22 = .ok (.ireturn, 1) := by decide +kernel
theorem dX5_supply_23 : decode cX5_supply 23 = .ok (.aload_n 0, 1) := by decide +kernel
theorem dX5_supply_24 : decode cX5_supply 24 = .ok (.getfield 12, 3) := by decide +kernel
theorem dX5_supply_27 : decode cX5_supply 27 = .ok (.getfield 69, 3) := by decide +kernel
theorem dX5_supply_30 : decode cX5_supply 30 = .ok (.iload_n 1, 1) := by decide +kernel
theorem dX5_supply_31 : decode cX5_supply 31 = .ok (.aaload, 1) := by decide +kernel
theorem dX5_supply_32 : decode cX5_supply 32 = .ok (.astore_n 3, 1) := by decide +kernel
theorem dX5_supply_33 : decode cX5_supply 33 = .ok (.aload_n 3, 1) := by decide +kernel
theorem dX5_supply_34 : decode cX5_supply 34 = .ok (.getfield 116, 3) := by decide +kernel
theorem dX5_supply_37 : decode cX5_supply 37 = .ok (.iload_n 2, 1) := by decide +kernel
theorem dX5_supply_38 : decode cX5_supply 38 = .ok (.iadd, 1) := by decide +kernel
theorem dX5_supply_39 : decode cX5_supply 39 = .ok (.sipush 9999, 3) := by decide +kernel
theorem dX5_supply_42 : decode cX5_supply 42 = .ok (.if_icmp .le 6, 3) := by decide +kernel
theorem dX5_supply_45 : decode cX5_supply 45 = .ok (.bipush (-3), 2) := by decide +kernel
theorem dX5_supply_47 : decode cX5_supply 47 = .ok (.ireturn, 1) := by decide +kernel
theorem dX5_supply_48 : decode cX5_supply 48 = .ok (.aload_n 0, 1) := by decide +kernel
theorem dX5_supply_49 : decode cX5_supply 49 = .ok (.getfield 32, 3) := by decide +kernel
theorem dX5_supply_52 : decode cX5_supply 52 = .ok (.aload_n 0, 1) := by decide +kernel
theorem dX5_supply_53 : decode cX5_supply 53 = .ok (.getfield 12, 3) := by decide +kernel
theorem dX5_supply_56 : decode cX5_supply 56 = .ok (.invokevirtual 47, 3) := by decide +kernel
theorem dX5_supply_59 : decode cX5_supply 59 = .ok (.aload_n 3, 1) := by decide +kernel
theorem dX5_supply_60 : decode cX5_supply 60 = .ok (.dup, 1) := by decide +kernel
theorem dX5_supply_61 : decode cX5_supply 61 = .ok (.getfield 116, 3) := by decide +kernel
theorem dX5_supply_64 : decode cX5_supply 64 = .ok (.iload_n 2, 1) := by decide +kernel
theorem dX5_supply_65 : decode cX5_supply 65 = .ok (.iadd, 1) := by decide +kernel
theorem dX5_supply_66 : decode cX5_supply 66 = .ok (.putfield 116, 3) := by decide +kernel
theorem dX5_supply_69 : decode cX5_supply 69 = .ok (.aload_n 3, 1) := by decide +kernel
theorem dX5_supply_70 : decode cX5_supply 70 = .ok (.getfield 116, 3) := by decide +kernel
theorem dX5_supply_73 : decode cX5_supply 73 = .ok (.ireturn, 1) := by decide +kernel
theorem dX5_movePapers_0 : decode cX5_movePapers 0 = .ok (.aload_n 0, 1) := by decide +kernel
theorem dX5_movePapers_1 : decode cX5_movePapers 1 = .ok (.getfield 12, 3) := by decide +kernel
theorem dX5_movePapers_4 : decode cX5_movePapers 4 = .ok (.iload_n 1, 1) := by decide +kernel
theorem dX5_movePapers_5 : decode cX5_movePapers 5 = .ok (.invokevirtual 62, 3) := by decide +kernel
theorem dX5_movePapers_8 : decode cX5_movePapers 8 = .ok (.ifCond .eq 14, 3) := by decide +kernel
theorem dX5_movePapers_11 : decode cX5_movePapers 11 = .ok (.aload_n 0, 1) := by decide +kernel
theorem dX5_movePapers_12 : decode cX5_movePapers 12 = .ok (.getfield 12, 3) := by decide +kernel
theorem dX5_movePapers_15 : decode cX5_movePapers 15 = .ok (.iload_n 2, 1) := by decide +kernel
theorem dX5_movePapers_16 : decode cX5_movePapers 16 = .ok (.invokevirtual 62, 3) := by decide +kernel
theorem dX5_movePapers_19 : decode cX5_movePapers 19 = .ok (.ifCond .ne 5, 3) := by decide +kernel
theorem dX5_movePapers_22 : decode cX5_movePapers 22 = .ok (.iconst (-1), 1) := by decide +kernel
theorem dX5_movePapers_23 : decode cX5_movePapers 23 = .ok (.ireturn, 1) := by decide +kernel
theorem dX5_movePapers_24 : decode cX5_movePapers 24 = .ok (.iload_n 3, 1) := by decide +kernel
theorem dX5_movePapers_25 : decode cX5_movePapers 25 = .ok (.invokestatic 113, 3) := by decide +kernel
theorem dX5_movePapers_28 : decode cX5_movePapers 28 = .ok (.ifCond .eq 8, 3) := by decide +kernel
theorem dX5_movePapers_31 : decode cX5_movePapers 31 = .ok (.iload_n 1, 1) := by decide +kernel
theorem dX5_movePapers_32 : decode cX5_movePapers 32 = .ok (.iload_n 2, 1) := by decide +kernel
theorem dX5_movePapers_33 : decode cX5_movePapers 33 = .ok (.if_icmp .ne 6, 3) := by decide +kernel
theorem dX5_movePapers_36 : decode cX5_movePapers 36 = .ok (.bipush (-2), 2) := by decide +kernel
theorem dX5_movePapers_38 : decode cX5_movePapers 38 = .ok (.ireturn, 1) := by decide +kernel
theorem dX5_movePapers_39 : decode cX5_movePapers 39 = .ok (.aload_n 0, 1) := by decide +kernel
theorem dX5_movePapers_40 : decode cX5_movePapers 40 = .ok (.getfield 12, 3) := by decide +kernel
theorem dX5_movePapers_43 : decode cX5_movePapers 43 = .ok (.getfield 69, 3) := by decide +kernel
theorem dX5_movePapers_46 : decode cX5_movePapers 46 = .ok (.iload_n 1, 1) := by decide +kernel
theorem dX5_movePapers_47 : decode cX5_movePapers 47 = .ok (.aaload, 1) := by decide +kernel
theorem dX5_movePapers_48 : decode cX5_movePapers 48 = .ok (.astore 4, 2) := by decide +kernel
theorem dX5_movePapers_50 : decode cX5_movePapers 50 = .ok (.aload_n 0, 1) := by decide +kernel
theorem dX5_movePapers_51 : decode cX5_movePapers 51 = .ok (.getfield 12, 3) := by decide +kernel
theorem dX5_movePapers_54 : decode cX5_movePapers 54 = .ok (.getfield 69, 3) := by decide +kernel
theorem dX5_movePapers_57 : decode cX5_movePapers 57 = .ok (.iload_n 2, 1) := by decide +kernel
theorem dX5_movePapers_58 : decode cX5_movePapers 58 = .ok (.aaload, 1) := by decide +kernel
theorem dX5_movePapers_59 : decode cX5_movePapers 59 = .ok (.astore 5, 2) := by decide +kernel
theorem dX5_movePapers_61 : decode cX5_movePapers 61 = .ok (.aload 4, 2) := by decide +kernel
theorem dX5_movePapers_63 : decode cX5_movePapers 63 = .ok (.getfield 116, 3) := by decide +kernel
theorem dX5_movePapers_66 : decode cX5_movePapers 66 = .ok (.iload_n 3, 1) := by decide +kernel
theorem dX5_movePapers_67 : decode cX5_movePapers 67 = .ok (.if_icmp .ge 6, 3) := by decide +kernel
theorem dX5_movePapers_70 : decode cX5_movePapers 70 = .ok (.bipush (-4), 2) := by decide +kernel
theorem dX5_movePapers_72 : decode cX5_movePapers 72 = .ok (.ireturn, 1) := by decide +kernel
theorem dX5_movePapers_73 : decode cX5_movePapers 73 = .ok (.aload 5, 2) := by decide +kernel
theorem dX5_movePapers_75 : decode cX5_movePapers 75 = .ok (.getfield 116, 3) := by decide +kernel
theorem dX5_movePapers_78 : decode cX5_movePapers 78 = .ok (.iload_n 3, 1) := by decide +kernel
theorem dX5_movePapers_79 : decode cX5_movePapers 79 = .ok (.iadd, 1) := by decide +kernel
theorem dX5_movePapers_80 : decode cX5_movePapers 80 = .ok (.sipush 9999, 3) := by decide +kernel
theorem dX5_movePapers_83 : decode cX5_movePapers 83 = .ok (.if_icmp .le 6, 3) := by decide +kernel
theorem dX5_movePapers_86 : decode cX5_movePapers 86 = .ok (.bipush (-3), 2) := by decide +kernel
theorem dX5_movePapers_88 : decode cX5_movePapers 88 = .ok (.ireturn, 1) := by decide +kernel
theorem dX5_movePapers_89 : decode cX5_movePapers 89 = .ok (.aload_n 0, 1) := by decide +kernel
theorem dX5_movePapers_90 : decode cX5_movePapers 90 = .ok (.getfield 32, 3) := by decide +kernel
theorem dX5_movePapers_93 : decode cX5_movePapers 93 = .ok (.aload_n 0, 1) := by decide +kernel
theorem dX5_movePapers_94 : decode cX5_movePapers 94 = .ok (.getfield 12, 3) := by decide +kernel
theorem dX5_movePapers_97 : decode cX5_movePapers 97 = .ok (.invokevirtual 47, 3) := by decide +kernel
theorem dX5_movePapers_100 : decode cX5_movePapers 100 = .ok (.aload 4, 2) := by decide +kernel
theorem dX5_movePapers_102 : decode cX5_movePapers 102 = .ok (.dup, 1) := by decide +kernel
theorem dX5_movePapers_103 : decode cX5_movePapers 103 = .ok (.getfield 116, 3) := by decide +kernel
theorem dX5_movePapers_106 : decode cX5_movePapers 106 = .ok (.iload_n 3, 1) := by decide +kernel
theorem dX5_movePapers_107 : decode cX5_movePapers 107 = .ok (.isub, 1) := by decide +kernel
theorem dX5_movePapers_108 : decode cX5_movePapers 108 = .ok (.putfield 116, 3) := by decide +kernel
theorem dX5_movePapers_111 : decode cX5_movePapers 111 = .ok (.aload 5, 2) := by decide +kernel
theorem dX5_movePapers_113 : decode cX5_movePapers 113 = .ok (.dup, 1) := by decide +kernel
theorem dX5_movePapers_114 : decode cX5_movePapers 114 = .ok (.getfield 116, 3) := by decide +kernel
theorem dX5_movePapers_117 : decode cX5_movePapers 117 = .ok (.iload_n 3, 1) := by decide +kernel
theorem dX5_movePapers_118 : decode cX5_movePapers 118 = .ok (.iadd, 1) := by decide +kernel
theorem dX5_movePapers_119 : decode cX5_movePapers 119 = .ok (.putfield 116, 3) := by decide +kernel
theorem dX5_movePapers_122 : decode cX5_movePapers 122 = .ok (.aload 4, 2) := by decide +kernel
theorem dX5_movePapers_124 : decode cX5_movePapers 124 = .ok (.getfield 116, 3) := by decide +kernel
theorem dX5_movePapers_127 : decode cX5_movePapers 127 = .ok (.ireturn, 1) := by decide +kernel
theorem dX5_spoil_0 : decode cX5_spoil 0 = .ok (.aload_n 0, 1) := by decide +kernel
theorem dX5_spoil_1 : decode cX5_spoil 1 = .ok (.getfield 12, 3) := by decide +kernel
theorem dX5_spoil_4 : decode cX5_spoil 4 = .ok (.iload_n 1, 1) := by decide +kernel
theorem dX5_spoil_5 : decode cX5_spoil 5 = .ok (.invokevirtual 62, 3) := by decide +kernel
theorem dX5_spoil_8 : decode cX5_spoil 8 = .ok (.ifCond .ne 5, 3) := by decide +kernel
theorem dX5_spoil_11 : decode cX5_spoil 11 = .ok (.iconst (-1), 1) := by decide +kernel
theorem dX5_spoil_12 : decode cX5_spoil 12 = .ok (.ireturn, 1) := by decide +kernel
theorem dX5_spoil_13 : decode cX5_spoil 13 = .ok (.iload_n 2, 1) := by decide +kernel
theorem dX5_spoil_14 : decode cX5_spoil 14 = .ok (.invokestatic 113, 3) := by decide +kernel
theorem dX5_spoil_17 : decode cX5_spoil 17 = .ok (.ifCond .ne 6, 3) := by decide +kernel
theorem dX5_spoil_20 : decode cX5_spoil 20 = .ok (.bipush (-2), 2) := by decide +kernel
theorem dX5_spoil_22 : decode cX5_spoil 22 = .ok (.ireturn, 1) := by decide +kernel
theorem dX5_spoil_23 : decode cX5_spoil 23 = .ok (.aload_n 0, 1) := by decide +kernel
theorem dX5_spoil_24 : decode cX5_spoil 24 = .ok (.getfield 12, 3) := by decide +kernel
theorem dX5_spoil_27 : decode cX5_spoil 27 = .ok (.getfield 69, 3) := by decide +kernel
theorem dX5_spoil_30 : decode cX5_spoil 30 = .ok (.iload_n 1, 1) := by decide +kernel
theorem dX5_spoil_31 : decode cX5_spoil 31 = .ok (.aaload, 1) := by decide +kernel
theorem dX5_spoil_32 : decode cX5_spoil 32 = .ok (.astore_n 3, 1) := by decide +kernel
theorem dX5_spoil_33 : decode cX5_spoil 33 = .ok (.aload_n 3, 1) := by decide +kernel
theorem dX5_spoil_34 : decode cX5_spoil 34 = .ok (.getfield 119, 3) := by decide +kernel
theorem dX5_spoil_37 : decode cX5_spoil 37 = .ok (.iload_n 2, 1) := by decide +kernel
theorem dX5_spoil_38 : decode cX5_spoil 38 = .ok (.if_icmp .lt 11, 3) := by decide +kernel
theorem dX5_spoil_41 : decode cX5_spoil 41 = .ok (.aload_n 3, 1) := by decide +kernel
theorem dX5_spoil_42 : decode cX5_spoil 42 = .ok (.getfield 116, 3) := by decide +kernel
theorem dX5_spoil_45 : decode cX5_spoil 45 = .ok (.iload_n 2, 1) := by decide +kernel
theorem dX5_spoil_46 : decode cX5_spoil 46 = .ok (.if_icmp .ge 6, 3) := by decide +kernel
theorem dX5_spoil_49 : decode cX5_spoil 49 = .ok (.bipush (-4), 2) := by decide +kernel
theorem dX5_spoil_51 : decode cX5_spoil 51 = .ok (.ireturn, 1) := by decide +kernel
theorem dX5_spoil_52 : decode cX5_spoil 52 = .ok (.aload_n 0, 1) := by decide +kernel
theorem dX5_spoil_53 : decode cX5_spoil 53 = .ok (.getfield 32, 3) := by decide +kernel
theorem dX5_spoil_56 : decode cX5_spoil 56 = .ok (.aload_n 0, 1) := by decide +kernel
theorem dX5_spoil_57 : decode cX5_spoil 57 = .ok (.getfield 12, 3) := by decide +kernel
theorem dX5_spoil_60 : decode cX5_spoil 60 = .ok (.invokevirtual 47, 3) := by decide +kernel
theorem dX5_spoil_63 : decode cX5_spoil 63 = .ok (.aload_n 3, 1) := by decide +kernel
theorem dX5_spoil_64 : decode cX5_spoil 64 = .ok (.dup, 1) := by decide +kernel
theorem dX5_spoil_65 : decode cX5_spoil 65 = .ok (.getfield 122, 3) := by decide +kernel
theorem dX5_spoil_68 : decode cX5_spoil 68 = .ok (.iload_n 2, 1) := by decide +kernel
theorem dX5_spoil_69 : decode cX5_spoil 69 = .ok (.iadd, 1) := by decide +kernel
theorem dX5_spoil_70 : decode cX5_spoil 70 = .ok (.putfield 122, 3) := by decide +kernel
theorem dX5_spoil_73 : decode cX5_spoil 73 = .ok (.aload_n 3, 1) := by decide +kernel
theorem dX5_spoil_74 : decode cX5_spoil 74 = .ok (.dup, 1) := by decide +kernel
theorem dX5_spoil_75 : decode cX5_spoil 75 = .ok (.getfield 125, 3) := by decide +kernel
theorem dX5_spoil_78 : decode cX5_spoil 78 = .ok (.iload_n 2, 1) := by decide +kernel
theorem dX5_spoil_79 : decode cX5_spoil 79 = .ok (.iadd, 1) := by decide +kernel
theorem dX5_spoil_80 : decode cX5_spoil 80 = .ok (.putfield 125, 3) := by decide +kernel
theorem dX5_spoil_83 : decode cX5_spoil 83 = .ok (.aload_n 3, 1) := by decide +kernel
theorem dX5_spoil_84 : decode cX5_spoil 84 = .ok (.dup, 1) := by decide +kernel
theorem dX5_spoil_85 : decode cX5_spoil 85 = .ok (.getfield 116, 3) := by decide +kernel
theorem dX5_spoil_88 : decode cX5_spoil 88 = .ok (.iload_n 2, 1) := by decide +kernel
theorem dX5_spoil_89 : decode cX5_spoil 89 = .ok (.isub, 1) := by decide +kernel
theorem dX5_spoil_90 : decode cX5_spoil 90 = .ok (.putfield 116, 3) := by decide +kernel
theorem dX5_spoil_93 : decode cX5_spoil 93 = .ok (.aload_n 3, 1) := by decide +kernel
theorem dX5_spoil_94 : decode cX5_spoil 94 = .ok (.getfield 116, 3) := by decide +kernel
theorem dX5_spoil_97 : decode cX5_spoil 97 = .ok (.ireturn, 1) := by decide +kernel
theorem dX5_carryOff_0 : decode cX5_carryOff 0 = .ok (.aload_n 0, 1) := by decide +kernel
theorem dX5_carryOff_1 : decode cX5_carryOff 1 = .ok (.getfield 12, 3) := by decide +kernel
theorem dX5_carryOff_4 : decode cX5_carryOff 4 = .ok (.iload_n 1, 1) := by decide +kernel
theorem dX5_carryOff_5 : decode cX5_carryOff 5 = .ok (.invokevirtual 62, 3) := by decide +kernel
theorem dX5_carryOff_8 : decode cX5_carryOff 8 = .ok (.ifCond .ne 5, 3) := by decide +kernel
theorem dX5_carryOff_11 : decode cX5_carryOff 11 = .ok (.iconst (-1), 1) := by decide +kernel
theorem dX5_carryOff_12 : decode cX5_carryOff 12 = .ok (.ireturn, 1) := by decide +kernel
theorem dX5_carryOff_13 : decode cX5_carryOff 13 = .ok (.iload_n 2, 1) := by decide +kernel
theorem dX5_carryOff_14 : decode cX5_carryOff 14 = .ok (.invokestatic 113, 3) := by decide +kernel
theorem dX5_carryOff_17 : decode cX5_carryOff 17 = .ok (.ifCond .ne 6, 3) := by decide +kernel
theorem dX5_carryOff_20 : decode cX5_carryOff 20 = .ok (.bipush (-2), 2) := by decide +kernel
theorem dX5_carryOff_22 : decode cX5_carryOff 22 = .ok (.ireturn, 1) := by decide +kernel
theorem dX5_carryOff_23 : decode cX5_carryOff 23 = .ok (.aload_n 0, 1) := by decide +kernel
theorem dX5_carryOff_24 : decode cX5_carryOff 24 = .ok (.getfield 12, 3) := by decide +kernel
theorem dX5_carryOff_27 : decode cX5_carryOff 27 = .ok (.getfield 69, 3) := by decide +kernel
theorem dX5_carryOff_30 : decode cX5_carryOff 30 = .ok (.iload_n 1, 1) := by decide +kernel
theorem dX5_carryOff_31 : decode cX5_carryOff 31 = .ok (.aaload, 1) := by decide +kernel
theorem dX5_carryOff_32 : decode cX5_carryOff 32 = .ok (.astore_n 3, 1) := by decide +kernel
theorem dX5_carryOff_33 : decode cX5_carryOff 33 = .ok (.aload_n 3, 1) := by decide +kernel
theorem dX5_carryOff_34 : decode cX5_carryOff 34 = .ok (.getfield 119, 3) := by decide +kernel
theorem dX5_carryOff_37 : decode cX5_carryOff 37 = .ok (.iload_n 2, 1) := by decide +kernel
theorem dX5_carryOff_38 : decode cX5_carryOff 38 = .ok (.if_icmp .ge 6, 3) := by decide +kernel
theorem dX5_carryOff_41 : decode cX5_carryOff 41 = .ok (.bipush (-4), 2) := by decide +kernel
theorem dX5_carryOff_43 : decode cX5_carryOff 43 = .ok (.ireturn, 1) := by decide +kernel
theorem dX5_carryOff_44 : decode cX5_carryOff 44 = .ok (.aload_n 0, 1) := by decide +kernel
theorem dX5_carryOff_45 : decode cX5_carryOff 45 = .ok (.getfield 32, 3) := by decide +kernel
theorem dX5_carryOff_48 : decode cX5_carryOff 48 = .ok (.aload_n 0, 1) := by decide +kernel
theorem dX5_carryOff_49 : decode cX5_carryOff 49 = .ok (.getfield 12, 3) := by decide +kernel
theorem dX5_carryOff_52 : decode cX5_carryOff 52 = .ok (.invokevirtual 47, 3) := by decide +kernel
theorem dX5_carryOff_55 : decode cX5_carryOff 55 = .ok (.aload_n 3, 1) := by decide +kernel
theorem dX5_carryOff_56 : decode cX5_carryOff 56 = .ok (.dup, 1) := by decide +kernel
theorem dX5_carryOff_57 : decode cX5_carryOff 57 = .ok (.getfield 119, 3) := by decide +kernel
theorem dX5_carryOff_60 : decode cX5_carryOff 60 = .ok (.iload_n 2, 1) := by decide +kernel
theorem dX5_carryOff_61 : decode cX5_carryOff 61 = .ok (.isub, 1) := by decide +kernel
theorem dX5_carryOff_62 : decode cX5_carryOff 62 = .ok (.putfield 119, 3) := by decide +kernel
theorem dX5_carryOff_65 : decode cX5_carryOff 65 = .ok (.aload_n 3, 1) := by decide +kernel
theorem dX5_carryOff_66 : decode cX5_carryOff 66 = .ok (.dup, 1) := by decide +kernel
theorem dX5_carryOff_67 : decode cX5_carryOff 67 = .ok (.getfield 128, 3) := by decide +kernel
theorem dX5_carryOff_70 : decode cX5_carryOff 70 = .ok (.iload_n 2, 1) := by decide +kernel
theorem dX5_carryOff_71 : decode cX5_carryOff 71 = .ok (.iadd, 1) := by decide +kernel
theorem dX5_carryOff_72 : decode cX5_carryOff 72 = .ok (.putfield 128, 3) := by decide +kernel
theorem dX5_carryOff_75 : decode cX5_carryOff 75 = .ok (.aload_n 3, 1) := by decide +kernel
theorem dX5_carryOff_76 : decode cX5_carryOff 76 = .ok (.getfield 119, 3) := by decide +kernel
theorem dX5_carryOff_79 : decode cX5_carryOff 79 = .ok (.ireturn, 1) := by decide +kernel
theorem dX5_find_0 : decode cX5_find 0 = .ok (.aload_n 0, 1) := by decide +kernel
theorem dX5_find_1 : decode cX5_find 1 = .ok (.getfield 12, 3) := by decide +kernel
theorem dX5_find_4 : decode cX5_find 4 = .ok (.iload_n 1, 1) := by decide +kernel
theorem dX5_find_5 : decode cX5_find 5 = .ok (.invokevirtual 62, 3) := by decide +kernel
theorem dX5_find_8 : decode cX5_find 8 = .ok (.ifCond .ne 5, 3) := by decide +kernel
theorem dX5_find_11 : decode cX5_find 11 = .ok (.iconst (-1), 1) := by decide +kernel
theorem dX5_find_12 : decode cX5_find 12 = .ok (.ireturn, 1) := by decide +kernel
theorem dX5_find_13 : decode cX5_find 13 = .ok (.iload_n 2, 1) := by decide +kernel
theorem dX5_find_14 : decode cX5_find 14 = .ok (.invokestatic 113, 3) := by decide +kernel
theorem dX5_find_17 : decode cX5_find 17 = .ok (.ifCond .ne 6, 3) := by decide +kernel
theorem dX5_find_20 : decode cX5_find 20 = .ok (.bipush (-2), 2) := by decide +kernel
theorem dX5_find_22 : decode cX5_find 22 = .ok (.ireturn, 1) := by decide +kernel
theorem dX5_find_23 : decode cX5_find 23 = .ok (.aload_n 0, 1) := by decide +kernel
theorem dX5_find_24 : decode cX5_find 24 = .ok (.getfield 12, 3) := by decide +kernel
theorem dX5_find_27 : decode cX5_find 27 = .ok (.getfield 69, 3) := by decide +kernel
theorem dX5_find_30 : decode cX5_find 30 = .ok (.iload_n 1, 1) := by decide +kernel
theorem dX5_find_31 : decode cX5_find 31 = .ok (.aaload, 1) := by decide +kernel
theorem dX5_find_32 : decode cX5_find 32 = .ok (.astore_n 3, 1) := by decide +kernel
theorem dX5_find_33 : decode cX5_find 33 = .ok (.aload_n 3, 1) := by decide +kernel
theorem dX5_find_34 : decode cX5_find 34 = .ok (.getfield 128, 3) := by decide +kernel
theorem dX5_find_37 : decode cX5_find 37 = .ok (.iload_n 2, 1) := by decide +kernel
theorem dX5_find_38 : decode cX5_find 38 = .ok (.if_icmp .ge 6, 3) := by decide +kernel
theorem dX5_find_41 : decode cX5_find 41 = .ok (.bipush (-4), 2) := by decide +kernel
theorem dX5_find_43 : decode cX5_find 43 = .ok (.ireturn, 1) := by decide +kernel
theorem dX5_find_44 : decode cX5_find 44 = .ok (.aload_n 0, 1) := by decide +kernel
theorem dX5_find_45 : decode cX5_find 45 = .ok (.getfield 32, 3) := by decide +kernel
theorem dX5_find_48 : decode cX5_find 48 = .ok (.aload_n 0, 1) := by decide +kernel
theorem dX5_find_49 : decode cX5_find 49 = .ok (.getfield 12, 3) := by decide +kernel
theorem dX5_find_52 : decode cX5_find 52 = .ok (.invokevirtual 47, 3) := by decide +kernel
theorem dX5_find_55 : decode cX5_find 55 = .ok (.aload_n 3, 1) := by decide +kernel
theorem dX5_find_56 : decode cX5_find 56 = .ok (.dup, 1) := by decide +kernel
theorem dX5_find_57 : decode cX5_find 57 = .ok (.getfield 128, 3) := by decide +kernel
theorem dX5_find_60 : decode cX5_find 60 = .ok (.iload_n 2, 1) := by decide +kernel
theorem dX5_find_61 : decode cX5_find 61 = .ok (.isub, 1) := by decide +kernel
theorem dX5_find_62 : decode cX5_find 62 = .ok (.putfield 128, 3) := by decide +kernel
theorem dX5_find_65 : decode cX5_find 65 = .ok (.aload_n 3, 1) := by decide +kernel
theorem dX5_find_66 : decode cX5_find 66 = .ok (.dup, 1) := by decide +kernel
theorem dX5_find_67 : decode cX5_find 67 = .ok (.getfield 131, 3) := by decide +kernel
theorem dX5_find_70 : decode cX5_find 70 = .ok (.iload_n 2, 1) := by decide +kernel
theorem dX5_find_71 : decode cX5_find 71 = .ok (.iadd, 1) := by decide +kernel
theorem dX5_find_72 : decode cX5_find 72 = .ok (.putfield 131, 3) := by decide +kernel
theorem dX5_find_75 : decode cX5_find 75 = .ok (.aload_n 3, 1) := by decide +kernel
theorem dX5_find_76 : decode cX5_find 76 = .ok (.getfield 128, 3) := by decide +kernel
theorem dX5_find_79 : decode cX5_find 79 = .ok (.ireturn, 1) := by decide +kernel
theorem dX5_countBox_0 : decode cX5_countBox 0 = .ok (.aload_n 0, 1) := by decide +kernel
theorem dX5_countBox_1 : decode cX5_countBox 1 = .ok (.getfield 12, 3) := by decide +kernel
theorem dX5_countBox_4 : decode cX5_countBox 4 = .ok (.iload_n 1, 1) := by decide +kernel
theorem dX5_countBox_5 : decode cX5_countBox 5 = .ok (.invokevirtual 62, 3) := by decide +kernel
theorem dX5_countBox_8 : decode cX5_countBox 8 = .ok (.ifCond .ne 5, 3) := by decide +kernel
theorem dX5_countBox_11 : decode cX5_countBox 11 = .ok (.iconst (-1), 1) := by decide +kernel
theorem dX5_countBox_12 : decode cX5_countBox 12 = .ok (.ireturn, 1) := by decide +kernel
theorem dX5_countBox_13 : decode cX5_countBox 13 = .ok (.iload_n 2, 1) := by decide +kernel
theorem dX5_countBox_14 : decode cX5_countBox 14 = .ok (.iconst 0, 1) := by decide +kernel
theorem dX5_countBox_15 : decode cX5_countBox 15 = .ok (.ldc 134, 2) := by decide +kernel
theorem dX5_countBox_17 : decode cX5_countBox 17 = .ok (.invokestatic 51, 3) := by decide +kernel
theorem dX5_countBox_20 : decode cX5_countBox 20 = .ok (.ifCond .ne 6, 3) := by decide +kernel
theorem dX5_countBox_23 : decode cX5_countBox 23 = .ok (.bipush (-2), 2) := by decide +kernel
theorem dX5_countBox_25 : decode cX5_countBox 25 = .ok (.ireturn, 1) := by decide +kernel
theorem dX5_countBox_26 : decode cX5_countBox 26 = .ok (.aload_n 0, 1) := by decide +kernel
theorem dX5_countBox_27 : decode cX5_countBox 27 = .ok (.getfield 12, 3) := by decide +kernel
theorem dX5_countBox_30 : decode cX5_countBox 30 = .ok (.getfield 69, 3) := by decide +kernel
theorem dX5_countBox_33 : decode cX5_countBox 33 = .ok (.iload_n 1, 1) := by decide +kernel
theorem dX5_countBox_34 : decode cX5_countBox 34 = .ok (.aaload, 1) := by decide +kernel
theorem dX5_countBox_35 : decode cX5_countBox 35 = .ok (.astore_n 3, 1) := by decide +kernel
theorem dX5_countBox_36 : decode cX5_countBox 36 = .ok (.aload_n 0, 1) := by decide +kernel
theorem dX5_countBox_37 : decode cX5_countBox 37 = .ok (.getfield 12, 3) := by decide +kernel
theorem dX5_countBox_40 : decode cX5_countBox 40 = .ok (.getfield 107, 3) := by decide +kernel
theorem dX5_countBox_43 : decode cX5_countBox 43 = .ok (.bipush 15, 2) := by decide +kernel
theorem dX5_countBox_45 : decode cX5_countBox 45 = .ok (.if_icmp .lt 10, 3) := by decide +kernel
theorem dX5_countBox_48 : decode cX5_countBox 48 = .ok (.aload_n 3, 1) := by decide +kernel
theorem dX5_countBox_49 : decode cX5_countBox 49 = .ok (.getfield 135, 3) := by decide +kernel
theorem dX5_countBox_52 : decode cX5_countBox 52 = .ok (.ifCond .le 6, 3) := by decide +kernel
theorem dX5_countBox_55 : decode cX5_countBox 55 = .ok (.bipush (-4), 2) := by decide +kernel
theorem dX5_countBox_57 : decode cX5_countBox 57 = .ok (.ireturn, 1) := by decide +kernel
theorem dX5_countBox_58 : decode cX5_countBox 58 = .ok (.aload_n 3, 1) := by decide +kernel
theorem dX5_countBox_59 : decode cX5_countBox 59 = .ok (.getfield 138, 3) := by decide +kernel
theorem dX5_countBox_62 : decode cX5_countBox 62 = .ok (.iconst 3, 1) := by decide +kernel
theorem dX5_countBox_63 : decode cX5_countBox 63 = .ok (.if_icmp .lt 6, 3) := by decide +kernel
theorem dX5_countBox_66 : decode cX5_countBox 66 = .ok (.bipush (-3), 2) := by decide +kernel
theorem dX5_countBox_68 : decode cX5_countBox 68 = .ok (.ireturn, 1) := by decide +kernel
theorem dX5_countBox_69 : decode cX5_countBox 69 = .ok (.aload_n 0, 1) := by decide +kernel
theorem dX5_countBox_70 : decode cX5_countBox 70 = .ok (.getfield 32, 3) := by decide +kernel
theorem dX5_countBox_73 : decode cX5_countBox 73 = .ok (.aload_n 0, 1) := by decide +kernel
theorem dX5_countBox_74 : decode cX5_countBox 74 = .ok (.getfield 12, 3) := by decide +kernel
theorem dX5_countBox_77 : decode cX5_countBox 77 = .ok (.invokevirtual 47, 3) := by decide +kernel
theorem dX5_countBox_80 : decode cX5_countBox 80 = .ok (.aload_n 3, 1) := by decide +kernel
theorem dX5_countBox_81 : decode cX5_countBox 81 = .ok (.iload_n 2, 1) := by decide +kernel
theorem dX5_countBox_82 : decode cX5_countBox 82 = .ok (.putfield 141, 3) := by decide +kernel
theorem dX5_countBox_85 : decode cX5_countBox 85 = .ok (.aload_n 3, 1) := by decide +kernel
theorem dX5_countBox_86 : decode cX5_countBox 86 = .ok (.dup, 1) := by decide +kernel
theorem dX5_countBox_87 : decode cX5_countBox 87 = .ok (.getfield 138, 3) := by decide +kernel
theorem dX5_countBox_90 : decode cX5_countBox 90 = .ok (.iconst 1, 1) := by decide +kernel
theorem dX5_countBox_91 : decode cX5_countBox 91 = .ok (.iadd, 1) := by decide +kernel
theorem dX5_countBox_92 : decode cX5_countBox 92 = .ok (.putfield 138, 3) := by decide +kernel
theorem dX5_countBox_95 : decode cX5_countBox 95 = .ok (.aload_n 3, 1) := by decide +kernel
theorem dX5_countBox_96 : decode cX5_countBox 96 = .ok (.getfield 138, 3) := by decide +kernel
theorem dX5_countBox_99 : decode cX5_countBox 99 = .ok (.ireturn, 1) := by decide +kernel
theorem dX5_type_0 : decode cX5_type 0 = .ok (.aload_n 0, 1) := by decide +kernel
theorem dX5_type_1 : decode cX5_type 1 = .ok (.getfield 39, 3) := by decide +kernel
theorem dX5_type_4 : decode cX5_type 4 = .ok (.getfield 144, 3) := by decide +kernel
theorem dX5_type_7 : decode cX5_type 7 = .ok (.bipush 60, 2) := by decide +kernel
theorem dX5_type_9 : decode cX5_type 9 = .ok (.if_icmp .lt 6, 3) := by decide +kernel
theorem dX5_type_12 : decode cX5_type 12 = .ok (.bipush (-3), 2) := by decide +kernel
theorem dX5_type_14 : decode cX5_type 14 = .ok (.ireturn, 1) := by decide +kernel
theorem dX5_type_15 : decode cX5_type 15 = .ok (.aload_n 0, 1) := by decide +kernel
theorem dX5_type_16 : decode cX5_type 16 = .ok (.getfield 39, 3) := by decide +kernel
theorem dX5_type_19 : decode cX5_type 19 = .ok (.getfield 147, 3) := by decide +kernel
theorem dX5_type_22 : decode cX5_type 22 = .ok (.aload_n 0, 1) := by decide +kernel
theorem dX5_type_23 : decode cX5_type 23 = .ok (.getfield 39, 3) := by decide +kernel
theorem dX5_type_26 : decode cX5_type 26 = .ok (.getfield 144, 3) := by decide +kernel
theorem dX5_type_29 : decode cX5_type 29 = .ok (.iload_n 1, 1) := by decide +kernel
theorem dX5_type_30 : decode cX5_type 30 = .ok (.castore, 1) := by decide +kernel
theorem dX5_type_31 : decode cX5_type 31 = .ok (.aload_n 0, 1) := by decide +kernel
theorem dX5_type_32 : decode cX5_type 32 = .ok (.getfield 39, 3) := by decide +kernel
theorem dX5_type_35 : decode cX5_type 35 = .ok (.dup, 1) := by decide +kernel
theorem dX5_type_36 : decode cX5_type 36 = .ok (.getfield 144, 3) := by decide +kernel
theorem dX5_type_39 : decode cX5_type 39 = .ok (.iconst 1, 1) := by decide +kernel
theorem dX5_type_40 : decode cX5_type 40 = .ok (.iadd, 1) := by decide +kernel
theorem dX5_type_41 : decode cX5_type 41 = .ok (.putfield 144, 3) := by decide +kernel
theorem dX5_type_44 : decode cX5_type 44 = .ok (.aload_n 0, 1) := by decide +kernel
theorem dX5_type_45 : decode cX5_type 45 = .ok (.getfield 39, 3) := by decide +kernel
theorem dX5_type_48 : decode cX5_type 48 = .ok (.getfield 144, 3) := by decide +kernel
theorem dX5_type_51 : decode cX5_type 51 = .ok (.ireturn, 1) := by decide +kernel
theorem dX5_clearText_0 : decode cX5_clearText 0 = .ok (.aload_n 0, 1) := by decide +kernel
theorem dX5_clearText_1 : decode cX5_clearText 1 = .ok (.getfield 39, 3) := by decide +kernel
theorem dX5_clearText_4 : decode cX5_clearText 4 = .ok (.getfield 144, 3) := by decide +kernel
theorem dX5_clearText_7 : decode cX5_clearText 7 = .ok (.istore_n 1, 1) := by decide +kernel
theorem dX5_clearText_8 : decode cX5_clearText 8 = .ok (.aload_n 0, 1) := by decide +kernel
theorem dX5_clearText_9 : decode cX5_clearText 9 = .ok (.getfield 39, 3) := by decide +kernel
theorem dX5_clearText_12 : decode cX5_clearText 12 = .ok (.iconst 0, 1) := by decide +kernel
theorem dX5_clearText_13 : decode cX5_clearText 13 = .ok (.putfield 144, 3) := by decide +kernel
theorem dX5_clearText_16 : decode cX5_clearText 16 = .ok (.iload_n 1, 1) := by decide +kernel
theorem dX5_clearText_17 : decode cX5_clearText 17 = .ok (.ireturn, 1) := by decide +kernel
theorem dX5_readArrivals_0 : decode cX5_readArrivals 0 = .ok (.aload_n 0, 1) := by decide +kernel
theorem dX5_readArrivals_1 : decode cX5_readArrivals 1 = .ok (.getfield 12, 3) := by decide +kernel
theorem dX5_readArrivals_4 : decode cX5_readArrivals 4 = .ok (.iload_n 1, 1) := by decide +kernel
theorem dX5_readArrivals_5 : decode cX5_readArrivals 5 = .ok (.invokevirtual 62, 3) := by decide +kernel
theorem dX5_readArrivals_8 : decode cX5_readArrivals 8 = .ok (.ifCond .ne 5, 3) := by decide +kernel
theorem dX5_readArrivals_11 : decode cX5_readArrivals 11 = .ok (.iconst (-1), 1) := by decide +kernel
theorem dX5_readArrivals_12 : decode cX5_readArrivals 12 = .ok (.ireturn, 1) := by decide +kernel
theorem dX5_readArrivals_13 : decode cX5_readArrivals 13 = .ok (.aload_n 0, 1) := by decide +kernel
theorem dX5_readArrivals_14 : decode cX5_readArrivals 14 = .ok (.iload_n 2, 1) := by decide +kernel
theorem dX5_readArrivals_15 : decode cX5_readArrivals 15 = .ok (.invokevirtual 66, 3) := by decide +kernel
theorem dX5_readArrivals_18 : decode cX5_readArrivals 18 = .ok (.ifCond .ne 6, 3) := by decide +kernel
theorem dX5_readArrivals_21 : decode cX5_readArrivals 21 = .ok (.bipush (-2), 2) := by decide +kernel
theorem dX5_readArrivals_23 : decode cX5_readArrivals 23 = .ok (.ireturn, 1) := by decide +kernel
theorem dX5_readArrivals_24 : decode cX5_readArrivals 24 = .ok (.aload_n 0, 1) := by decide +kernel
theorem dX5_readArrivals_25 : decode cX5_readArrivals 25 = .ok (.getfield 39, 3) := by decide +kernel
theorem dX5_readArrivals_28 : decode cX5_readArrivals 28 = .ok (.invokevirtual 151, 3) := by decide +kernel
theorem dX5_readArrivals_31 : decode cX5_readArrivals 31 = .ok (.istore_n 3, 1) := by decide +kernel
theorem dX5_readArrivals_32 : decode cX5_readArrivals 32 = .ok (.iload_n 3, 1) := by decide +kernel
theorem dX5_readArrivals_33 : decode cX5_readArrivals 33 = .ok (.iconst (-1), 1) := by decide +kernel
theorem dX5_readArrivals_34 : decode cX5_readArrivals 34 = .ok (.if_icmp .eq 8, 3) := by decide +kernel
theorem dX5_readArrivals_37 : decode cX5_readArrivals 37 = .ok (.bipush (-100), 2) := by decide +kernel
theorem dX5_readArrivals_39 : decode cX5_readArrivals 39 = .ok (.iload_n 3, 1) := by decide +kernel
theorem dX5_readArrivals_40 : decode cX5_readArrivals 40 = .ok (.isub, 1) := by decide +kernel
theorem dX5_readArrivals_41 : decode cX5_readArrivals 41 = .ok (.ireturn, 1) := by decide +kernel
theorem dX5_readArrivals_42 : decode cX5_readArrivals 42 = .ok (.aload_n 0, 1) := by decide +kernel
theorem dX5_readArrivals_43 : decode cX5_readArrivals 43 = .ok (.getfield 39, 3) := by decide +kernel
theorem dX5_readArrivals_46 : decode cX5_readArrivals 46 = .ok (.invokevirtual 155, 3) := by decide +kernel
theorem dX5_readArrivals_49 : decode cX5_readArrivals 49 = .ok (.istore 4, 2) := by decide +kernel
theorem dX5_readArrivals_51 : decode cX5_readArrivals 51 = .ok (.aload_n 0, 1) := by decide +kernel
theorem dX5_readArrivals_52 : decode cX5_readArrivals 52 = .ok (.getfield 39, 3) := by decide +kernel
theorem dX5_readArrivals_55 : decode cX5_readArrivals 55 = .ok (.iload 4, 2) := by decide +kernel
theorem dX5_readArrivals_57 : decode cX5_readArrivals 57 = .ok (.invokevirtual 158, 3) := by decide +kernel
theorem dX5_readArrivals_60 : decode cX5_readArrivals 60 = .ok (.sipush 500, 3) := by decide +kernel
theorem dX5_readArrivals_63 : decode cX5_readArrivals 63 = .ok (.if_icmp .le 6, 3) := by decide +kernel
theorem dX5_readArrivals_66 : decode cX5_readArrivals 66 = .ok (.bipush (-2), 2) := by decide +kernel
theorem dX5_readArrivals_68 : decode cX5_readArrivals 68 = .ok (.ireturn, 1) := by decide +kernel
theorem dX5_readArrivals_69 : decode cX5_readArrivals 69 = .ok (.iload_n 2, 1) := by decide +kernel
theorem dX5_readArrivals_70 : decode cX5_readArrivals 70 = .ok (.iload 4, 2) := by decide +kernel
theorem dX5_readArrivals_72 : decode cX5_readArrivals 72 = .ok (.iadd, 1) := by decide +kernel
theorem dX5_readArrivals_73 : decode cX5_readArrivals 73 = .ok (.bipush 15, 2) := by decide +kernel
theorem dX5_readArrivals_75 : decode cX5_readArrivals 75 = .ok (.if_icmp .le 6, 3) := by decide +kernel
theorem dX5_readArrivals_78 : decode cX5_readArrivals 78 = .ok (.bipush (-3), 2) := by decide +kernel
theorem dX5_readArrivals_80 : decode cX5_readArrivals 80 = .ok (.ireturn, 1) := by decide +kernel
theorem dX5_readArrivals_81 : decode cX5_readArrivals 81 = .ok (.aload_n 0, 1) := by decide +kernel
theorem dX5_readArrivals_82 : decode cX5_readArrivals 82 = .ok (.getfield 32, 3) := by decide +kernel
theorem dX5_readArrivals_85 : decode cX5_readArrivals 85 = .ok (.aload_n 0, 1) := by decide +kernel
theorem dX5_readArrivals_86 : decode cX5_readArrivals 86 = .ok (.getfield 12, 3) := by decide +kernel
theorem dX5_readArrivals_89 : decode cX5_readArrivals 89 = .ok (.invokevirtual 47, 3) := by decide +kernel
theorem dX5_readArrivals_92 : decode cX5_readArrivals 92 = .ok (.aload_n 0, 1) := by decide +kernel
theorem dX5_readArrivals_93 : decode cX5_readArrivals 93 = .ok (.getfield 39, 3) := by decide +kernel
theorem dX5_readArrivals_96 : decode cX5_readArrivals 96 = .ok (.getfield 161, 3) := by decide +kernel
theorem dX5_readArrivals_99 : decode cX5_readArrivals 99 = .ok (.iconst 0, 1) := by decide +kernel
theorem dX5_readArrivals_100 : decode cX5_readArrivals 100 = .ok (.aload_n 0, 1) := by decide +kernel
theorem dX5_readArrivals_101 : decode cX5_readArrivals 101 = .ok (.getfield 12, 3) := by decide +kernel
theorem dX5_readArrivals_104 : decode cX5_readArrivals 104 = .ok (.getfield 69, 3) := by decide +kernel
theorem dX5_readArrivals_107 : decode cX5_readArrivals 107 = .ok (.iload_n 1, 1) := by decide +kernel
theorem dX5_readArrivals_108 : decode cX5_readArrivals 108 = .ok (.aaload, 1) := by decide +kernel
theorem dX5_readArrivals_109 : decode cX5_readArrivals 109 = .ok (.getfield 73, 3) := by decide +kernel
theorem dX5_readArrivals_112 : decode cX5_readArrivals 112 = .ok (.iload_n 2, 1) := by decide +kernel
theorem dX5_readArrivals_113 : decode cX5_readArrivals 113 = .ok (.iload 4, 2) := by decide +kernel
theorem dX5_readArrivals_115 : decode cX5_readArrivals 115 = .ok (.invokestatic 164, 3) := by decide +kernel
theorem dX5_readArrivals_118 : decode cX5_readArrivals 118 = .ok (.iload 4, 2) := by decide +kernel
theorem dX5_readArrivals_120 : decode cX5_readArrivals 120 = .ok (.ireturn, 1) := by decide +kernel
theorem dX5_undo_0 : decode cX5_undo 0 = .ok (.aload_n 0, 1) := by decide +kernel
theorem dX5_undo_1 : decode cX5_undo 1 = .ok (.getfield 32, 3) := by decide +kernel
theorem dX5_undo_4 : decode cX5_undo 4 = .ok (.getfield 170, 3) := by decide +kernel
theorem dX5_undo_7 : decode cX5_undo 7 = .ok (.ifCond .gt 6, 3) := by decide +kernel
theorem dX5_undo_10 : decode cX5_undo 10 = .ok (.bipush (-5), 2) := by decide +kernel
theorem dX5_undo_12 : decode cX5_undo 12 = .ok (.ireturn, 1) := by decide +kernel
theorem dX5_undo_13 : decode cX5_undo 13 = .ok (.aload_n 0, 1) := by decide +kernel
theorem dX5_undo_14 : decode cX5_undo 14 = .ok (.getfield 32, 3) := by decide +kernel
theorem dX5_undo_17 : decode cX5_undo 17 = .ok (.aload_n 0, 1) := by decide +kernel
theorem dX5_undo_18 : decode cX5_undo 18 = .ok (.getfield 12, 3) := by decide +kernel
theorem dX5_undo_21 : decode cX5_undo 21 = .ok (.invokevirtual 173, 3) := by decide +kernel
theorem dX5_undo_24 : decode cX5_undo 24 = .ok (.aload_n 0, 1) := by decide +kernel
theorem dX5_undo_25 : decode cX5_undo 25 = .ok (.getfield 32, 3) := by decide +kernel
theorem dX5_undo_28 : decode cX5_undo 28 = .ok (.getfield 170, 3) := by decide +kernel
theorem dX5_undo_31 : decode cX5_undo 31 = .ok (.ireturn, 1) := by decide +kernel
theorem dX5_keep_0 : decode cX5_keep 0 = .ok (.aload_n 0, 1) := by decide +kernel
theorem dX5_keep_1 : decode cX5_keep 1 = .ok (.getfield 19, 3) := by decide +kernel
theorem dX5_keep_4 : decode cX5_keep 4 = .ok (.aload_n 0, 1) := by decide +kernel
theorem dX5_keep_5 : decode cX5_keep 5 = .ok (.getfield 12, 3) := by decide +kernel
theorem dX5_keep_8 : decode cX5_keep 8 = .ok (.invokevirtual 176, 3) := by decide +kernel
theorem dX5_keep_11 : decode cX5_keep 11 = .ok (.aload_n 0, 1) := by decide +kernel
theorem dX5_keep_12 : decode cX5_keep 12 = .ok (.iconst 1, 1) := by decide +kernel
theorem dX5_keep_13 : decode cX5_keep 13 = .ok (.putfield 179, 3) := by decide +kernel
theorem dX5_keep_16 : decode cX5_keep 16 = .ok (.aload_n 0, 1) := by decide +kernel
theorem dX5_keep_17 : decode cX5_keep 17 = .ok (.getfield 12, 3) := by decide +kernel
theorem dX5_keep_20 : decode cX5_keep 20 = .ok (.getfield 107, 3) := by decide +kernel
theorem dX5_keep_23 : decode cX5_keep 23 = .ok (.ireturn, 1) := by decide +kernel
theorem dX5_restore_0 : decode cX5_restore 0 = .ok (.aload_n 0, 1) := by decide +kernel
theorem dX5_restore_1 : decode cX5_restore 1 = .ok (.getfield 179, 3) := by decide +kernel
theorem dX5_restore_4 : decode cX5_restore 4 = .ok (.ifCond .ne 6, 3) := by decide +kernel
theorem dX5_restore_7 : decode cX5_restore 7 = .ok (.bipush (-5), 2) := by decide +kernel
theorem dX5_restore_9 : decode cX5_restore 9 = .ok (.ireturn, 1) := by decide +kernel
theorem dX5_restore_10 : decode cX5_restore 10 = .ok (.aload_n 0, 1) := by decide +kernel
theorem dX5_restore_11 : decode cX5_restore 11 = .ok (.getfield 32, 3) := by decide +kernel
theorem dX5_restore_14 : decode cX5_restore 14 = .ok (.aload_n 0, 1) := by decide +kernel
theorem dX5_restore_15 : decode cX5_restore 15 = .ok (.getfield 12, 3) := by decide +kernel
theorem dX5_restore_18 : decode cX5_restore 18 = .ok (.invokevirtual 47, 3) := by decide +kernel
theorem dX5_restore_21 : decode cX5_restore 21 = .ok (.aload_n 0, 1) := by decide +kernel
theorem dX5_restore_22 : decode cX5_restore 22 = .ok (.getfield 12, 3) := by decide +kernel
theorem dX5_restore_25 : decode cX5_restore 25 = .ok (.aload_n 0, 1) := by decide +kernel
theorem dX5_restore_26 : decode cX5_restore 26 = .ok (.getfield 19, 3) := by decide +kernel
theorem dX5_restore_29 : decode cX5_restore 29 = .ok (.invokevirtual 176, 3) := by decide +kernel
theorem dX5_restore_32 : decode cX5_restore 32 = .ok (.aload_n 0, 1) := by decide +kernel
theorem dX5_restore_33 : decode cX5_restore 33 = .ok (.getfield 12, 3) := by decide +kernel
theorem dX5_restore_36 : decode cX5_restore 36 = .ok (.getfield 107, 3) := by decide +kernel
theorem dX5_restore_39 : decode cX5_restore 39 = .ok (.ireturn, 1) := by decide +kernel
theorem dX5_station_0 : decode cX5_station 0 = .ok (.aload_n 0, 1) := by decide +kernel
theorem dX5_station_1 : decode cX5_station 1 = .ok (.getfield 12, 3) := by decide +kernel
theorem dX5_station_4 : decode cX5_station 4 = .ok (.iload_n 1, 1) := by decide +kernel
theorem dX5_station_5 : decode cX5_station 5 = .ok (.invokevirtual 62, 3) := by decide +kernel
theorem dX5_station_8 : decode cX5_station 8 = .ok (.ifCond .ne 5, 3) := by decide +kernel
theorem dX5_station_11 : decode cX5_station 11 = .ok (.iconst (-1), 1) := by decide +kernel
theorem dX5_station_12 : decode cX5_station 12 = .ok (.ireturn, 1) := by decide +kernel
theorem dX5_station_13 : decode cX5_station 13 = .ok (.aload_n 0, 1) := by decide +kernel
theorem dX5_station_14 : decode cX5_station 14 = .ok (.getfield 12, 3) := by decide +kernel
theorem dX5_station_17 : decode cX5_station 17 = .ok (.getfield 69, 3) := by decide +kernel
theorem dX5_station_20 : decode cX5_station 20 = .ok (.iload_n 1, 1) := by decide +kernel
theorem dX5_station_21 : decode cX5_station 21 = .ok (.aaload, 1) := by decide +kernel
theorem dX5_station_22 : decode cX5_station 22 = .ok (.astore_n 3, 1) := by decide +kernel
theorem dX5_station_23 : decode cX5_station 23 = .ok (.iload_n 2, 1) := by decide +kernel
theorem dX5_station_24 : decode cX5_station 24 = .ok (.tableswitch 100 0 7 #[48, 53, 58, 63, 68, 77, 86, 91], 48) := by decide +kernel
theorem dX5_station_72 : decode cX5_station 72 = .ok (.aload_n 3, 1) := by decide +kernel
theorem dX5_station_73 : decode cX5_station 73 = .ok (.getfield 135, 3) := by decide +kernel
theorem dX5_station_76 : decode cX5_station 76 = .ok (.ireturn, 1) := by decide +kernel
theorem dX5_station_77 : decode cX5_station 77 = .ok (.aload_n 3, 1) := by decide +kernel
theorem dX5_station_78 : decode cX5_station 78 = .ok (.getfield 183, 3) := by decide +kernel
theorem dX5_station_81 : decode cX5_station 81 = .ok (.ireturn, 1) := by decide +kernel
theorem dX5_station_82 : decode cX5_station 82 = .ok (.aload_n 3, 1) := by decide +kernel
theorem dX5_station_83 : decode cX5_station 83 = .ok (.getfield 186, 3) := by decide +kernel
theorem dX5_station_86 : decode cX5_station 86 = .ok (.ireturn, 1) := by decide +kernel
theorem dX5_station_87 : decode cX5_station 87 = .ok (.aload_n 3, 1) := by decide +kernel
theorem dX5_station_88 : decode cX5_station 88 = .ok (.getfield 189, 3) := by decide +kernel
theorem dX5_station_91 : decode cX5_station 91 = .ok (.ireturn, 1) := by decide +kernel
theorem dX5_station_92 : decode cX5_station 92 = .ok (.aload_n 0, 1) := by decide +kernel
theorem dX5_station_93 : decode cX5_station 93 = .ok (.getfield 12, 3) := by decide +kernel
theorem dX5_station_96 : decode cX5_station 96 = .ok (.iload_n 1, 1) := by decide +kernel
theorem dX5_station_97 : decode cX5_station 97 = .ok (.invokevirtual 94, 3) := by decide +kernel
theorem dX5_station_100 : decode cX5_station 100 = .ok (.ireturn, 1) := by decide +kernel
theorem dX5_station_101 : decode cX5_station 101 = .ok (.aload_n 0, 1) := by decide +kernel
theorem dX5_station_102 : decode cX5_station 102 = .ok (.getfield 12, 3) := by decide +kernel
theorem dX5_station_105 : decode cX5_station 105 = .ok (.iload_n 1, 1) := by decide +kernel
theorem dX5_station_106 : decode cX5_station 106 = .ok (.invokevirtual 192, 3) := by decide +kernel
theorem dX5_station_109 : decode cX5_station 109 = .ok (.ireturn, 1) := by decide +kernel
theorem dX5_station_110 : decode cX5_station 110 = .ok (.aload_n 3, 1) := by decide +kernel
theorem dX5_station_111 : decode cX5_station 111 = .ok (.invokevirtual 195, 3) := by decide +kernel
theorem dX5_station_114 : decode cX5_station 114 = .ok (.ireturn, 1) := by decide +kernel
theorem dX5_station_115 : decode cX5_station 115 = .ok (.aload_n 0, 1) := by decide +kernel
theorem dX5_station_116 : decode cX5_station 116 = .ok (.getfield 12, 3) := by decide +kernel
theorem dX5_station_119 : decode cX5_station 119 = .ok (.iload_n 1, 1) := by decide +kernel
theorem dX5_station_120 : decode cX5_station 120 = .ok (.invokevirtual 198, 3) := by decide +kernel
theorem dX5_station_123 : decode cX5_station 123 = .ok (.ireturn, 1) := by decide +kernel
theorem dX5_station_124 : decode cX5_station 124 = .ok (.bipush (-2), 2) := by decide +kernel
theorem dX5_station_126 : decode cX5_station 126 = .ok (.ireturn, 1) := by decide +kernel
theorem dX5_papers_0 : decode cX5_papers 0 = .ok (.aload_n 0, 1) := by decide +kernel
theorem dX5_papers_1 : decode cX5_papers 1 = .ok (.getfield 12, 3) := by decide +kernel
theorem dX5_papers_4 : decode cX5_papers 4 = .ok (.iload_n 1, 1) := by decide +kernel
theorem dX5_papers_5 : decode cX5_papers 5 = .ok (.invokevirtual 62, 3) := by decide +kernel
theorem dX5_papers_8 : decode cX5_papers 8 = .ok (.ifCond .ne 5, 3) := by decide +kernel
theorem dX5_papers_11 : decode cX5_papers 11 = .ok (.iconst (-1), 1) := by decide +kernel
theorem dX5_papers_12 : decode cX5_papers 12 = .ok (.ireturn, 1) := by decide +kernel
theorem dX5_papers_13 : decode cX5_papers 13 = .ok (.aload_n 0, 1) := by decide +kernel
theorem dX5_papers_14 : decode cX5_papers 14 = .ok (.getfield 12, 3) := by decide +kernel
theorem dX5_papers_17 : decode cX5_papers 17 = .ok (.getfield 69, 3) := by decide +kernel
theorem dX5_papers_20 : decode cX5_papers 20 = .ok (.iload_n 1, 1) := by decide +kernel
theorem dX5_papers_21 : decode cX5_papers 21 = .ok (.aaload, 1) := by decide +kernel
theorem dX5_papers_22 : decode cX5_papers 22 = .ok (.astore_n 3, 1) := by decide +kernel
theorem dX5_papers_23 : decode cX5_papers 23 = .ok (.iload_n 2, 1) := by decide +kernel
theorem dX5_papers_24 : decode cX5_papers 24 = .ok (.tableswitch 129 0 8 #[52, 57, 62, 67, 72, 77, 82, 99, 124], 52) := by decide +kernel
theorem dX5_papers_76 : decode cX5_papers 76 = .ok (.aload_n 3, 1) := by decide +kernel
theorem dX5_papers_77 : decode cX5_papers 77 = .ok (.getfield 116, 3) := by decide +kernel
theorem dX5_papers_80 : decode cX5_papers 80 = .ok (.ireturn, 1) := by decide +kernel
theorem dX5_papers_81 : decode cX5_papers 81 = .ok (.aload_n 3, 1) := by decide +kernel
theorem dX5_papers_82 : decode cX5_papers 82 = .ok (.getfield 125, 3) := by decide +kernel
theorem dX5_papers_85 : decode cX5_papers 85 = .ok (.ireturn, 1) := by decide +kernel
theorem dX5_papers_86 : decode cX5_papers 86 = .ok (.aload_n 3, 1) := by decide +kernel
theorem dX5_papers_87 : decode cX5_papers 87 = .ok (.getfield 122, 3) := by decide +kernel
theorem dX5_papers_90 : decode cX5_papers 90 = .ok (.ireturn, 1) := by decide +kernel
theorem dX5_papers_91 : decode cX5_papers 91 = .ok (.aload_n 3, 1) := by decide +kernel
theorem dX5_papers_92 : decode cX5_papers 92 = .ok (.getfield 128, 3) := by decide +kernel
theorem dX5_papers_95 : decode cX5_papers 95 = .ok (.ireturn, 1) := by decide +kernel
theorem dX5_papers_96 : decode cX5_papers 96 = .ok (.aload_n 3, 1) := by decide +kernel
theorem dX5_papers_97 : decode cX5_papers 97 = .ok (.getfield 131, 3) := by decide +kernel
theorem dX5_papers_100 : decode cX5_papers 100 = .ok (.ireturn, 1) := by decide +kernel
theorem dX5_papers_101 : decode cX5_papers 101 = .ok (.aload_n 3, 1) := by decide +kernel
theorem dX5_papers_102 : decode cX5_papers 102 = .ok (.getfield 119, 3) := by decide +kernel
theorem dX5_papers_105 : decode cX5_papers 105 = .ok (.ireturn, 1) := by decide +kernel
theorem dX5_papers_106 : decode cX5_papers 106 = .ok (.aload_n 3, 1) := by decide +kernel
theorem dX5_papers_107 : decode cX5_papers 107 = .ok (.invokevirtual 201, 3) := by decide +kernel
theorem dX5_papers_110 : decode cX5_papers 110 = .ok (.ifCond .eq 10, 3) := by decide +kernel
theorem dX5_papers_113 : decode cX5_papers 113 = .ok (.aload_n 3, 1) := by decide +kernel
theorem dX5_papers_114 : decode cX5_papers 114 = .ok (.getfield 141, 3) := by decide +kernel
theorem dX5_papers_117 : decode cX5_papers 117 = .ok (.goto 5, 3) := by decide +kernel
theorem dX5_papers_120 : decode cX5_papers 120 = .ok (.bipush (-5), 2) := by decide +kernel
theorem dX5_papers_122 : decode cX5_papers 122 = .ok (.ireturn, 1) := by decide +kernel
theorem dX5_papers_123 : decode cX5_papers 123 = .ok (.aload_n 3, 1) := by decide +kernel
theorem dX5_papers_124 : decode cX5_papers 124 = .ok (.invokevirtual 201, 3) := by decide +kernel
theorem dX5_papers_127 : decode cX5_papers 127 = .ok (.ifCond .eq 18, 3) := by decide +kernel
theorem dX5_papers_130 : decode cX5_papers 130 = .ok (.aload_n 3, 1) := by decide +kernel
theorem dX5_papers_131 : decode cX5_papers 131 = .ok (.getfield 141, 3) := by decide +kernel
theorem dX5_papers_134 : decode cX5_papers 134 = .ok (.aload_n 3, 1) := by decide +kernel
theorem dX5_papers_135 : decode cX5_papers 135 = .ok (.getfield 119, 3) := by decide +kernel
theorem dX5_papers_138 : decode cX5_papers 138 = .ok (.isub, 1) := by decide +kernel
theorem dX5_papers_139 : decode cX5_papers 139 = .ok (.ldc 204, 2) := by decide +kernel
theorem dX5_papers_141 : decode cX5_papers 141 = .ok (.iadd, 1) := by decide +kernel
theorem dX5_papers_142 : decode cX5_papers 142 = .ok (.goto 5, 3) := by decide +kernel
theorem dX5_papers_145 : decode cX5_papers 145 = .ok (.bipush (-5), 2) := by decide +kernel
theorem dX5_papers_147 : decode cX5_papers 147 = .ok (.ireturn, 1) := by decide +kernel
theorem dX5_papers_148 : decode cX5_papers 148 = .ok (.aload_n 3, 1) := by decide +kernel
theorem dX5_papers_149 : decode cX5_papers 149 = .ok (.getfield 138, 3) := by decide +kernel
theorem dX5_papers_152 : decode cX5_papers 152 = .ok (.ireturn, 1) := by decide +kernel
theorem dX5_papers_153 : decode cX5_papers 153 = .ok (.bipush (-2), 2) := by decide +kernel
theorem dX5_papers_155 : decode cX5_papers 155 = .ok (.ireturn, 1) := by decide +kernel
theorem dX5_clerk_0 : decode cX5_clerk 0 = .ok (.aload_n 0, 1) := by decide +kernel
theorem dX5_clerk_1 : decode cX5_clerk 1 = .ok (.getfield 12, 3) := by decide +kernel
theorem dX5_clerk_4 : decode cX5_clerk 4 = .ok (.iload_n 1, 1) := by decide +kernel
theorem dX5_clerk_5 : decode cX5_clerk 5 = .ok (.invokevirtual 77, 3) := by decide +kernel
theorem dX5_clerk_8 : decode cX5_clerk 8 = .ok (.ifCond .ne 5, 3) := by decide +kernel
theorem dX5_clerk_11 : decode cX5_clerk 11 = .ok (.iconst (-1), 1) := by decide +kernel
theorem dX5_clerk_12 : decode cX5_clerk 12 = .ok (.ireturn, 1) := by decide +kernel
theorem dX5_clerk_13 : decode cX5_clerk 13 = .ok (.aload_n 0, 1) := by decide +kernel
theorem dX5_clerk_14 : decode cX5_clerk 14 = .ok (.getfield 12, 3) := by decide +kernel
theorem dX5_clerk_17 : decode cX5_clerk 17 = .ok (.getfield 80, 3) := by decide +kernel
theorem dX5_clerk_20 : decode cX5_clerk 20 = .ok (.iload_n 1, 1) := by decide +kernel
theorem dX5_clerk_21 : decode cX5_clerk 21 = .ok (.aaload, 1) := by decide +kernel
theorem dX5_clerk_22 : decode cX5_clerk 22 = .ok (.astore_n 3, 1) := by decide +kernel
theorem dX5_clerk_23 : decode cX5_clerk 23 = .ok (.iload_n 2, 1) := by decide +kernel
theorem dX5_clerk_24 : decode cX5_clerk 24 = .ok (.tableswitch 103 0 6 #[44, 49, 54, 59, 64, 69, 82], 44) := by decide +kernel
theorem dX5_clerk_68 : decode cX5_clerk 68 = .ok (.aload_n 3, 1) := by decide +kernel
theorem dX5_clerk_69 : decode cX5_clerk 69 = .ok (.getfield 205, 3) := by decide +kernel
theorem dX5_clerk_72 : decode cX5_clerk 72 = .ok (.ireturn, 1) := by decide +kernel
theorem dX5_clerk_73 : decode cX5_clerk 73 = .ok (.aload_n 3, 1) := by decide +kernel
theorem dX5_clerk_74 : decode cX5_clerk 74 = .ok (.getfield 208, 3) := by decide +kernel
theorem dX5_clerk_77 : decode cX5_clerk 77 = .ok (.ireturn, 1) := by decide +kernel
theorem dX5_clerk_78 : decode cX5_clerk 78 = .ok (.aload_n 3, 1) := by decide +kernel
theorem dX5_clerk_79 : decode cX5_clerk 79 = .ok (.getfield 211, 3) := by decide +kernel
theorem dX5_clerk_82 : decode cX5_clerk 82 = .ok (.ireturn, 1) := by decide +kernel
theorem dX5_clerk_83 : decode cX5_clerk 83 = .ok (.aload_n 3, 1) := by decide +kernel
theorem dX5_clerk_84 : decode cX5_clerk 84 = .ok (.getfield 101, 3) := by decide +kernel
theorem dX5_clerk_87 : decode cX5_clerk 87 = .ok (.ireturn, 1) := by decide +kernel
theorem dX5_clerk_88 : decode cX5_clerk 88 = .ok (.aload_n 3, 1) := by decide +kernel
theorem dX5_clerk_89 : decode cX5_clerk 89 = .ok (.getfield 214, 3) := by decide +kernel
theorem dX5_clerk_92 : decode cX5_clerk 92 = .ok (.ireturn, 1) := by decide +kernel
theorem dX5_clerk_93 : decode cX5_clerk 93 = .ok (.aload_n 3, 1) := by decide +kernel
theorem dX5_clerk_94 : decode cX5_clerk 94 = .ok (.invokevirtual 217, 3) := by decide +kernel
theorem dX5_clerk_97 : decode cX5_clerk 97 = .ok (.ifCond .eq 7, 3) := by decide +kernel
theorem dX5_clerk_100 : decode cX5_clerk 100 = .ok (.iconst 1, 1) := by decide +kernel
theorem dX5_clerk_101 : decode cX5_clerk 101 = .ok (.goto 4, 3) := by decide +kernel
theorem dX5_clerk_104 : decode cX5_clerk 104 = .ok (.iconst 0, 1) := by decide +kernel
theorem dX5_clerk_105 : decode cX5_clerk 105 = .ok (.ireturn, 1) := by decide +kernel
theorem dX5_clerk_106 : decode cX5_clerk 106 = .ok (.aload_n 3, 1) := by decide +kernel
theorem dX5_clerk_107 : decode cX5_clerk 107 = .ok (.invokevirtual 84, 3) := by decide +kernel
theorem dX5_clerk_110 : decode cX5_clerk 110 = .ok (.ifCond .eq 14, 3) := by decide +kernel
theorem dX5_clerk_113 : decode cX5_clerk 113 = .ok (.aload_n 0, 1) := by decide +kernel
theorem dX5_clerk_114 : decode cX5_clerk 114 = .ok (.getfield 12, 3) := by decide +kernel
theorem dX5_clerk_117 : decode cX5_clerk 117 = .ok (.iload_n 1, 1) := by decide +kernel
theorem dX5_clerk_118 : decode cX5_clerk 118 = .ok (.invokevirtual 220, 3) := by decide +kernel
theorem dX5_clerk_121 : decode cX5_clerk 121 = .ok (.goto 5, 3) := by decide +kernel
theorem dX5_clerk_124 : decode cX5_clerk 124 = .ok (.bipush (-5), 2) := by decide +kernel
theorem dX5_clerk_126 : decode cX5_clerk 126 = .ok (.ireturn, 1) := by decide +kernel
theorem dX5_clerk_127 : decode cX5_clerk 127 = .ok (.bipush (-2), 2) := by decide +kernel
theorem dX5_clerk_129 : decode cX5_clerk 129 = .ok (.ireturn, 1) := by decide +kernel
theorem dX5_arrivals_0 : decode cX5_arrivals 0 = .ok (.aload_n 0, 1) := by decide +kernel
theorem dX5_arrivals_1 : decode cX5_arrivals 1 = .ok (.getfield 12, 3) := by decide +kernel
theorem dX5_arrivals_4 : decode cX5_arrivals 4 = .ok (.iload_n 1, 1) := by decide +kernel
theorem dX5_arrivals_5 : decode cX5_arrivals 5 = .ok (.invokevirtual 62, 3) := by decide +kernel
theorem dX5_arrivals_8 : decode cX5_arrivals 8 = .ok (.ifCond .ne 5, 3) := by decide +kernel
theorem dX5_arrivals_11 : decode cX5_arrivals 11 = .ok (.iconst (-1), 1) := by decide +kernel
theorem dX5_arrivals_12 : decode cX5_arrivals 12 = .ok (.ireturn, 1) := by decide +kernel
theorem dX5_arrivals_13 : decode cX5_arrivals 13 = .ok (.iload_n 2, 1) := by decide +kernel
theorem dX5_arrivals_14 : decode cX5_arrivals 14 = .ok (.iconst 0, 1) := by decide +kernel
theorem dX5_arrivals_15 : decode cX5_arrivals 15 = .ok (.bipush 14, 2) := by decide +kernel
theorem dX5_arrivals_17 : decode cX5_arrivals 17 = .ok (.invokestatic 51, 3) := by decide +kernel
theorem dX5_arrivals_20 : decode cX5_arrivals 20 = .ok (.ifCond .ne 6, 3) := by decide +kernel
theorem dX5_arrivals_23 : decode cX5_arrivals 23 = .ok (.bipush (-2), 2) := by decide +kernel
theorem dX5_arrivals_25 : decode cX5_arrivals 25 = .ok (.ireturn, 1) := by decide +kernel
theorem dX5_arrivals_26 : decode cX5_arrivals 26 = .ok (.aload_n 0, 1) := by decide +kernel
theorem dX5_arrivals_27 : decode cX5_arrivals 27 = .ok (.getfield 12, 3) := by decide +kernel
theorem dX5_arrivals_30 : decode cX5_arrivals 30 = .ok (.getfield 69, 3) := by decide +kernel
theorem dX5_arrivals_33 : decode cX5_arrivals 33 = .ok (.iload_n 1, 1) := by decide +kernel
theorem dX5_arrivals_34 : decode cX5_arrivals 34 = .ok (.aaload, 1) := by decide +kernel
theorem dX5_arrivals_35 : decode cX5_arrivals 35 = .ok (.getfield 73, 3) := by decide +kernel
theorem dX5_arrivals_38 : decode cX5_arrivals 38 = .ok (.iload_n 2, 1) := by decide +kernel
theorem dX5_arrivals_39 : decode cX5_arrivals 39 = .ok (.iaload, 1) := by decide +kernel
theorem dX5_arrivals_40 : decode cX5_arrivals 40 = .ok (.ireturn, 1) := by decide +kernel
theorem dX5_free_0 : decode cX5_free 0 = .ok (.iload_n 1, 1) := by decide +kernel
theorem dX5_free_1 : decode cX5_free 1 = .ok (.ifCond .ge 6, 3) := by decide +kernel
theorem dX5_free_4 : decode cX5_free 4 = .ok (.bipush (-2), 2) := by decide +kernel
theorem dX5_free_6 : decode cX5_free 6 = .ok (.ireturn, 1) := by decide +kernel
theorem dX5_free_7 : decode cX5_free 7 = .ok (.iconst 0, 1) := by decide +kernel
theorem dX5_free_8 : decode cX5_free 8 = .ok (.istore_n 2, 1) := by decide +kernel
theorem dX5_free_9 : decode cX5_free 9 = .ok (.iload_n 2, 1) := by decide +kernel
theorem dX5_free_10 : decode cX5_free 10 = .ok (.aload_n 0, 1) := by decide +kernel
theorem dX5_free_11 : decode cX5_free 11 = .ok (.getfield 12, 3) := by decide +kernel
theorem dX5_free_14 : decode cX5_free 14 = .ok (.getfield 55, 3) := by decide +kernel
theorem dX5_free_17 : decode cX5_free 17 = .ok (.if_icmp .ge 38, 3) := by decide +kernel
theorem dX5_free_20 : decode cX5_free 20 = .ok (.aload_n 0, 1) := by decide +kernel
theorem dX5_free_21 : decode cX5_free 21 = .ok (.getfield 12, 3) := by decide +kernel
theorem dX5_free_24 : decode cX5_free 24 = .ok (.getfield 80, 3) := by decide +kernel
theorem dX5_free_27 : decode cX5_free 27 = .ok (.iload_n 2, 1) := by decide +kernel
theorem dX5_free_28 : decode cX5_free 28 = .ok (.aaload, 1) := by decide +kernel
theorem dX5_free_29 : decode cX5_free 29 = .ok (.invokevirtual 84, 3) := by decide +kernel
theorem dX5_free_32 : decode cX5_free 32 = .ok (.ifCond .eq 17, 3) := by decide +kernel
theorem dX5_free_35 : decode cX5_free 35 = .ok (.aload_n 0, 1) := by decide +kernel
theorem dX5_free_36 : decode cX5_free 36 = .ok (.getfield 12, 3) := by decide +kernel
theorem dX5_free_39 : decode cX5_free 39 = .ok (.iload_n 2, 1) := by decide +kernel
theorem dX5_free_40 : decode cX5_free 40 = .ok (.invokevirtual 220, 3) := by decide +kernel
theorem dX5_free_43 : decode cX5_free 43 = .ok (.iload_n 1, 1) := by decide +kernel
theorem dX5_free_44 : decode cX5_free 44 = .ok (.if_icmp .ne 5, 3) := by decide +kernel
theorem dX5_free_47 : decode cX5_free 47 = .ok (.iload_n 2, 1) := by decide +kernel
theorem dX5_free_48 : decode cX5_free 48 = .ok (.ireturn, 1) := by decide +kernel
theorem dX5_free_49 : decode cX5_free 49 = .ok (.iinc 2 1, 3) := by decide +kernel
theorem dX5_free_52 : decode cX5_free 52 = .ok (.goto (-43), 3) := by decide +kernel
theorem dX5_free_55 : decode cX5_free 55 = .ok (.bipush (-5), 2) := by decide +kernel
theorem dX5_free_57 : decode cX5_free 57 = .ok (.ireturn, 1) := by decide +kernel
theorem dX5_busiest_0 : decode cX5_busiest 0 = .ok (.iload_n 1, 1) := by decide +kernel
theorem dX5_busiest_1 : decode cX5_busiest 1 = .ok (.ifCond .ge 6, 3) := by decide +kernel
theorem dX5_busiest_4 : decode cX5_busiest 4 = .ok (.bipush (-2), 2) := by decide +kernel
theorem dX5_busiest_6 : decode cX5_busiest 6 = .ok (.ireturn, 1) := by decide +kernel
theorem dX5_busiest_7 : decode cX5_busiest 7 = .ok (.iconst 0, 1) := by decide +kernel
theorem dX5_busiest_8 : decode cX5_busiest 8 = .ok (.istore_n 2, 1) := by decide +kernel
theorem dX5_busiest_9 : decode cX5_busiest 9 = .ok (.iload_n 2, 1) := by decide +kernel
theorem dX5_busiest_10 : decode cX5_busiest 10 = .ok (.aload_n 0, 1) := by decide +kernel
theorem dX5_busiest_11 : decode cX5_busiest 11 = .ok (.getfield 12, 3) := by decide +kernel
theorem dX5_busiest_14 : decode cX5_busiest 14 = .ok (.getfield 43, 3) := by decide +kernel
theorem dX5_busiest_17 : decode cX5_busiest 17 = .ok (.if_icmp .ge 23, 3) := by decide +kernel
theorem dX5_busiest_20 : decode cX5_busiest 20 = .ok (.aload_n 0, 1) := by decide +kernel
theorem dX5_busiest_21 : decode cX5_busiest 21 = .ok (.getfield 12, 3) := by decide +kernel
theorem dX5_busiest_24 : decode cX5_busiest 24 = .ok (.iload_n 2, 1) := by decide +kernel
theorem dX5_busiest_25 : decode cX5_busiest 25 = .ok (.invokevirtual 223, 3) := by decide +kernel
theorem dX5_busiest_28 : decode cX5_busiest 28 = .ok (.iload_n 1, 1) := by decide +kernel
theorem dX5_busiest_29 : decode cX5_busiest 29 = .ok (.if_icmp .ne 5, 3) := by decide +kernel
theorem dX5_busiest_32 : decode cX5_busiest 32 = .ok (.iload_n 2, 1) := by decide +kernel
theorem dX5_busiest_33 : decode cX5_busiest 33 = .ok (.ireturn, 1) := by decide +kernel
theorem dX5_busiest_34 : decode cX5_busiest 34 = .ok (.iinc 2 1, 3) := by decide +kernel
theorem dX5_busiest_37 : decode cX5_busiest 37 = .ok (.goto (-28), 3) := by decide +kernel
theorem dX5_busiest_40 : decode cX5_busiest 40 = .ok (.bipush (-5), 2) := by decide +kernel
theorem dX5_busiest_42 : decode cX5_busiest 42 = .ok (.ireturn, 1) := by decide +kernel
theorem dX5_queueIn_0 : decode cX5_queueIn 0 = .ok (.aload_n 0, 1) := by decide +kernel
theorem dX5_queueIn_1 : decode cX5_queueIn 1 = .ok (.getfield 12, 3) := by decide +kernel
theorem dX5_queueIn_4 : decode cX5_queueIn 4 = .ok (.iload_n 1, 1) := by decide +kernel
theorem dX5_queueIn_5 : decode cX5_queueIn 5 = .ok (.invokevirtual 62, 3) := by decide +kernel
theorem dX5_queueIn_8 : decode cX5_queueIn 8 = .ok (.ifCond .ne 5, 3) := by decide +kernel
theorem dX5_queueIn_11 : decode cX5_queueIn 11 = .ok (.iconst (-1), 1) := by decide +kernel
theorem dX5_queueIn_12 : decode cX5_queueIn 12 = .ok (.ireturn, 1) := by decide +kernel
theorem dX5_queueIn_13 : decode cX5_queueIn 13 = .ok (.iload_n 2, 1) := by decide +kernel
theorem dX5_queueIn_14 : decode cX5_queueIn 14 = .ok (.iconst 0, 1) := by decide +kernel
theorem dX5_queueIn_15 : decode cX5_queueIn 15 = .ok (.bipush 18, 2) := by decide +kernel
theorem dX5_queueIn_17 : decode cX5_queueIn 17 = .ok (.invokestatic 51, 3) := by decide +kernel
theorem dX5_queueIn_20 : decode cX5_queueIn 20 = .ok (.ifCond .ne 6, 3) := by decide +kernel
theorem dX5_queueIn_23 : decode cX5_queueIn 23 = .ok (.bipush (-2), 2) := by decide +kernel
theorem dX5_queueIn_25 : decode cX5_queueIn 25 = .ok (.ireturn, 1) := by decide +kernel
theorem dX5_queueIn_26 : decode cX5_queueIn 26 = .ok (.aload_n 0, 1) := by decide +kernel
theorem dX5_queueIn_27 : decode cX5_queueIn 27 = .ok (.getfield 12, 3) := by decide +kernel
theorem dX5_queueIn_30 : decode cX5_queueIn 30 = .ok (.getfield 107, 3) := by decide +kernel
theorem dX5_queueIn_33 : decode cX5_queueIn 33 = .ok (.iload_n 2, 1) := by decide +kernel
theorem dX5_queueIn_34 : decode cX5_queueIn 34 = .ok (.iadd, 1) := by decide +kernel
theorem dX5_queueIn_35 : decode cX5_queueIn 35 = .ok (.bipush 18, 2) := by decide +kernel
theorem dX5_queueIn_37 : decode cX5_queueIn 37 = .ok (.if_icmp .le 6, 3) := by decide +kernel
theorem dX5_queueIn_40 : decode cX5_queueIn 40 = .ok (.bipush (-4), 2) := by decide +kernel
theorem dX5_queueIn_42 : decode cX5_queueIn 42 = .ok (.ireturn, 1) := by decide +kernel
theorem dX5_queueIn_43 : decode cX5_queueIn 43 = .ok (.aload_n 0, 1) := by decide +kernel
theorem dX5_queueIn_44 : decode cX5_queueIn 44 = .ok (.getfield 16, 3) := by decide +kernel
theorem dX5_queueIn_47 : decode cX5_queueIn 47 = .ok (.aload_n 0, 1) := by decide +kernel
theorem dX5_queueIn_48 : decode cX5_queueIn 48 = .ok (.getfield 12, 3) := by decide +kernel
theorem dX5_queueIn_51 : decode cX5_queueIn 51 = .ok (.invokevirtual 176, 3) := by decide +kernel
theorem dX5_queueIn_54 : decode cX5_queueIn 54 = .ok (.aload_n 0, 1) := by decide +kernel
theorem dX5_queueIn_55 : decode cX5_queueIn 55 = .ok (.getfield 16, 3) := by decide +kernel
theorem dX5_queueIn_58 : decode cX5_queueIn 58 = .ok (.iload_n 2, 1) := by decide +kernel
theorem dX5_queueIn_59 : decode cX5_queueIn 59 = .ok (.invokevirtual 110, 3) := by decide +kernel
theorem dX5_queueIn_62 : decode cX5_queueIn 62 = .ok (.pop, 1) := by decide +kernel
theorem dX5_queueIn_63 : decode cX5_queueIn 63 = .ok (.aload_n 0, 1) := by decide +kernel
theorem dX5_queueIn_64 : decode cX5_queueIn 64 = .ok (.getfield 16, 3) := by decide +kernel
theorem dX5_queueIn_67 : decode cX5_queueIn 67 = .ok (.getfield 69, 3) := by decide +kernel
theorem dX5_queueIn_70 : decode cX5_queueIn 70 = .ok (.iload_n 1, 1) := by decide +kernel
theorem dX5_queueIn_71 : decode cX5_queueIn 71 = .ok (.aaload, 1) := by decide +kernel
theorem dX5_queueIn_72 : decode cX5_queueIn 72 = .ok (.getfield 135, 3) := by decide +kernel
theorem dX5_queueIn_75 : decode cX5_queueIn 75 = .ok (.ireturn, 1) := by decide +kernel
theorem dX5_lacks_0 : decode cX5_lacks 0 = .ok (.aload_n 0, 1) := by decide +kernel
theorem dX5_lacks_1 : decode cX5_lacks 1 = .ok (.getfield 12, 3) := by decide +kernel
theorem dX5_lacks_4 : decode cX5_lacks 4 = .ok (.iload_n 1, 1) := by decide +kernel
theorem dX5_lacks_5 : decode cX5_lacks 5 = .ok (.invokevirtual 62, 3) := by decide +kernel
theorem dX5_lacks_8 : decode cX5_lacks 8 = .ok (.ifCond .ne 5, 3) := by decide +kernel
theorem dX5_lacks_11 : decode cX5_lacks 11 = .ok (.iconst (-1), 1) := by decide +kernel
theorem dX5_lacks_12 : decode cX5_lacks 12 = .ok (.ireturn, 1) := by decide +kernel
theorem dX5_lacks_13 : decode cX5_lacks 13 = .ok (.aload_n 0, 1) := by decide +kernel
theorem dX5_lacks_14 : decode cX5_lacks 14 = .ok (.getfield 16, 3) := by decide +kernel
theorem dX5_lacks_17 : decode cX5_lacks 17 = .ok (.aload_n 0, 1) := by decide +kernel
theorem dX5_lacks_18 : decode cX5_lacks 18 = .ok (.getfield 12, 3) := by decide +kernel
theorem dX5_lacks_21 : decode cX5_lacks 21 = .ok (.invokevirtual 176, 3) := by decide +kernel
theorem dX5_lacks_24 : decode cX5_lacks 24 = .ok (.aload_n 0, 1) := by decide +kernel
theorem dX5_lacks_25 : decode cX5_lacks 25 = .ok (.getfield 16, 3) := by decide +kernel
theorem dX5_lacks_28 : decode cX5_lacks 28 = .ok (.getfield 69, 3) := by decide +kernel
theorem dX5_lacks_31 : decode cX5_lacks 31 = .ok (.iload_n 1, 1) := by decide +kernel
theorem dX5_lacks_32 : decode cX5_lacks 32 = .ok (.aaload, 1) := by decide +kernel
theorem dX5_lacks_33 : decode cX5_lacks 33 = .ok (.astore_n 2, 1) := by decide +kernel
theorem dX5_lacks_34 : decode cX5_lacks 34 = .ok (.aload_n 2, 1) := by decide +kernel
theorem dX5_lacks_35 : decode cX5_lacks 35 = .ok (.sipush 7500, 3) := by decide +kernel
theorem dX5_lacks_38 : decode cX5_lacks 38 = .ok (.putfield 116, 3) := by decide +kernel
theorem dX5_lacks_41 : decode cX5_lacks 41 = .ok (.aload_n 0, 1) := by decide +kernel
theorem dX5_lacks_42 : decode cX5_lacks 42 = .ok (.getfield 16, 3) := by decide +kernel
theorem dX5_lacks_45 : decode cX5_lacks 45 = .ok (.bipush 18, 2) := by decide +kernel
theorem dX5_lacks_47 : decode cX5_lacks 47 = .ok (.aload_n 0, 1) := by decide +kernel
theorem dX5_lacks_48 : decode cX5_lacks 48 = .ok (.getfield 12, 3) := by decide +kernel
theorem dX5_lacks_51 : decode cX5_lacks 51 = .ok (.getfield 107, 3) := by decide +kernel
theorem dX5_lacks_54 : decode cX5_lacks 54 = .ok (.isub, 1) := by decide +kernel
theorem dX5_lacks_55 : decode cX5_lacks 55 = .ok (.invokevirtual 110, 3) := by decide +kernel
theorem dX5_lacks_58 : decode cX5_lacks 58 = .ok (.pop, 1) := by decide +kernel
theorem dX5_lacks_59 : decode cX5_lacks 59 = .ok (.aload_n 2, 1) := by decide +kernel
theorem dX5_lacks_60 : decode cX5_lacks 60 = .ok (.getfield 186, 3) := by decide +kernel
theorem dX5_lacks_63 : decode cX5_lacks 63 = .ok (.aload_n 0, 1) := by decide +kernel
theorem dX5_lacks_64 : decode cX5_lacks 64 = .ok (.getfield 12, 3) := by decide +kernel
theorem dX5_lacks_67 : decode cX5_lacks 67 = .ok (.getfield 69, 3) := by decide +kernel
theorem dX5_lacks_70 : decode cX5_lacks 70 = .ok (.iload_n 1, 1) := by decide +kernel
theorem dX5_lacks_71 : decode cX5_lacks 71 = .ok (.aaload, 1) := by decide +kernel
theorem dX5_lacks_72 : decode cX5_lacks 72 = .ok (.getfield 186, 3) := by decide +kernel
theorem dX5_lacks_75 : decode cX5_lacks 75 = .ok (.isub, 1) := by decide +kernel
theorem dX5_lacks_76 : decode cX5_lacks 76 = .ok (.istore_n 3, 1) := by decide +kernel
theorem dX5_lacks_77 : decode cX5_lacks 77 = .ok (.iconst 0, 1) := by decide +kernel
theorem dX5_lacks_78 : decode cX5_lacks 78 = .ok (.iload_n 3, 1) := by decide +kernel
theorem dX5_lacks_79 : decode cX5_lacks 79 = .ok (.aload_n 0, 1) := by decide +kernel
theorem dX5_lacks_80 : decode cX5_lacks 80 = .ok (.getfield 12, 3) := by decide +kernel
theorem dX5_lacks_83 : decode cX5_lacks 83 = .ok (.getfield 69, 3) := by decide +kernel
theorem dX5_lacks_86 : decode cX5_lacks 86 = .ok (.iload_n 1, 1) := by decide +kernel
theorem dX5_lacks_87 : decode cX5_lacks 87 = .ok (.aaload, 1) := by decide +kernel
theorem dX5_lacks_88 : decode cX5_lacks 88 = .ok (.getfield 116, 3) := by decide +kernel
theorem dX5_lacks_91 : decode cX5_lacks 91 = .ok (.isub, 1) := by decide +kernel
theorem dX5_lacks_92 : decode cX5_lacks 92 = .ok (.invokestatic 226, 3) := by decide +kernel
theorem dX5_lacks_95 : decode cX5_lacks 95 = .ok (.ireturn, 1) := by decide +kernel
theorem dX5_count_0 : decode cX5_count 0 = .ok (.iload_n 1, 1) := by decide +kernel
theorem dX5_count_1 : decode cX5_count 1 = .ok (.tableswitch 209 0 15 #[79, 87, 95, 103, 111, 119, 127, 135, 143, 151, 159, 168, 177, 185, 193, 201], 79) := by decide +kernel
theorem dX5_count_80 : decode cX5_count 80 = .ok (.aload_n 0, 1) := by decide +kernel
theorem dX5_count_81 : decode cX5_count 81 = .ok (.getfield 12, 3) := by decide +kernel
theorem dX5_count_84 : decode cX5_count 84 = .ok (.getfield 107, 3) := by decide +kernel
theorem dX5_count_87 : decode cX5_count 87 = .ok (.ireturn, 1) := by decide +kernel
theorem dX5_count_88 : decode cX5_count 88 = .ok (.aload_n 0, 1) := by decide +kernel
theorem dX5_count_89 : decode cX5_count 89 = .ok (.getfield 12, 3) := by decide +kernel
theorem dX5_count_92 : decode cX5_count 92 = .ok (.getfield 43, 3) := by decide +kernel
theorem dX5_count_95 : decode cX5_count 95 = .ok (.ireturn, 1) := by decide +kernel
theorem dX5_count_96 : decode cX5_count 96 = .ok (.aload_n 0, 1) := by decide +kernel
theorem dX5_count_97 : decode cX5_count 97 = .ok (.getfield 12, 3) := by decide +kernel
theorem dX5_count_100 : decode cX5_count 100 = .ok (.getfield 55, 3) := by decide +kernel
theorem dX5_count_103 : decode cX5_count 103 = .ok (.ireturn, 1) := by decide +kernel
theorem dX5_count_104 : decode cX5_count 104 = .ok (.aload_n 0, 1) := by decide +kernel
theorem dX5_count_105 : decode cX5_count 105 = .ok (.getfield 12, 3) := by decide +kernel
theorem dX5_count_108 : decode cX5_count 108 = .ok (.invokevirtual 231, 3) := by decide +kernel
theorem dX5_count_111 : decode cX5_count 111 = .ok (.ireturn, 1) := by decide +kernel
theorem dX5_count_112 : decode cX5_count 112 = .ok (.aload_n 0, 1) := by decide +kernel
theorem dX5_count_113 : decode cX5_count 113 = .ok (.getfield 12, 3) := by decide +kernel
theorem dX5_count_116 : decode cX5_count 116 = .ok (.invokevirtual 234, 3) := by decide +kernel
theorem dX5_count_119 : decode cX5_count 119 = .ok (.ireturn, 1) := by decide +kernel
theorem dX5_count_120 : decode cX5_count 120 = .ok (.aload_n 0, 1) := by decide +kernel
theorem dX5_count_121 : decode cX5_count 121 = .ok (.invokevirtual 237, 3) := by decide +kernel
theorem dX5_count_124 : decode cX5_count 124 = .ok (.getfield 135, 3) := by decide +kernel
theorem dX5_count_127 : decode cX5_count 127 = .ok (.ireturn, 1) := by decide +kernel
theorem dX5_count_128 : decode cX5_count 128 = .ok (.aload_n 0, 1) := by decide +kernel
theorem dX5_count_129 : decode cX5_count 129 = .ok (.invokevirtual 237, 3) := by decide +kernel
theorem dX5_count_132 : decode cX5_count 132 = .ok (.getfield 186, 3) := by decide +kernel
theorem dX5_count_135 : decode cX5_count 135 = .ok (.ireturn, 1) := by decide +kernel
theorem dX5_count_136 : decode cX5_count 136 = .ok (.aload_n 0, 1) := by decide +kernel
theorem dX5_count_137 : decode cX5_count 137 = .ok (.invokevirtual 237, 3) := by decide +kernel
theorem dX5_count_140 : decode cX5_count 140 = .ok (.getfield 116, 3) := by decide +kernel
theorem dX5_count_143 : decode cX5_count 143 = .ok (.ireturn, 1) := by decide +kernel
theorem dX5_count_144 : decode cX5_count 144 = .ok (.aload_n 0, 1) := by decide +kernel
theorem dX5_count_145 : decode cX5_count 145 = .ok (.invokevirtual 237, 3) := by decide +kernel
theorem dX5_count_148 : decode cX5_count 148 = .ok (.getfield 125, 3) := by decide +kernel
theorem dX5_count_151 : decode cX5_count 151 = .ok (.ireturn, 1) := by decide +kernel
theorem dX5_count_152 : decode cX5_count 152 = .ok (.aload_n 0, 1) := by decide +kernel
theorem dX5_count_153 : decode cX5_count 153 = .ok (.invokevirtual 237, 3) := by decide +kernel
theorem dX5_count_156 : decode cX5_count 156 = .ok (.getfield 119, 3) := by decide +kernel
theorem dX5_count_159 : decode cX5_count 159 = .ok (.ireturn, 1) := by decide +kernel
theorem dX5_count_160 : decode cX5_count 160 = .ok (.aload_n 0, 1) := by decide +kernel
theorem dX5_count_161 : decode cX5_count 161 = .ok (.getfield 12, 3) := by decide +kernel
theorem dX5_count_164 : decode cX5_count 164 = .ok (.iconst 1, 1) := by decide +kernel
theorem dX5_count_165 : decode cX5_count 165 = .ok (.invokevirtual 240, 3) := by decide +kernel
theorem dX5_count_168 : decode cX5_count 168 = .ok (.ireturn, 1) := by decide +kernel
theorem dX5_count_169 : decode cX5_count 169 = .ok (.aload_n 0, 1) := by decide +kernel
theorem dX5_count_170 : decode cX5_count 170 = .ok (.getfield 12, 3) := by decide +kernel
theorem dX5_count_173 : decode cX5_count 173 = .ok (.iconst 0, 1) := by decide +kernel
theorem dX5_count_174 : decode cX5_count 174 = .ok (.invokevirtual 240, 3) := by decide +kernel
theorem dX5_count_177 : decode cX5_count 177 = .ok (.ireturn, 1) := by decide +kernel
theorem dX5_count_178 : decode cX5_count 178 = .ok (.aload_n 0, 1) := by decide +kernel
theorem dX5_count_179 : decode cX5_count 179 = .ok (.invokevirtual 237, 3) := by decide +kernel
theorem dX5_count_182 : decode cX5_count 182 = .ok (.getfield 189, 3) := by decide +kernel
theorem dX5_count_185 : decode cX5_count 185 = .ok (.ireturn, 1) := by decide +kernel
theorem dX5_count_186 : decode cX5_count 186 = .ok (.aload_n 0, 1) := by decide +kernel
theorem dX5_count_187 : decode cX5_count 187 = .ok (.getfield 12, 3) := by decide +kernel
theorem dX5_count_190 : decode cX5_count 190 = .ok (.invokevirtual 244, 3) := by decide +kernel
theorem dX5_count_193 : decode cX5_count 193 = .ok (.ireturn, 1) := by decide +kernel
theorem dX5_count_194 : decode cX5_count 194 = .ok (.aload_n 0, 1) := by decide +kernel
theorem dX5_count_195 : decode cX5_count 195 = .ok (.getfield 32, 3) := by decide +kernel
theorem dX5_count_198 : decode cX5_count 198 = .ok (.getfield 170, 3) := by decide +kernel
theorem dX5_count_201 : decode cX5_count 201 = .ok (.ireturn, 1) := by decide +kernel
theorem dX5_count_202 : decode cX5_count 202 = .ok (.aload_n 0, 1) := by decide +kernel
theorem dX5_count_203 : decode cX5_count 203 = .ok (.getfield 39, 3) := by decide +kernel
theorem dX5_count_206 : decode cX5_count 206 = .ok (.getfield 144, 3) := by decide +kernel
theorem dX5_count_209 : decode cX5_count 209 = .ok (.ireturn, 1) := by decide +kernel
theorem dX5_count_210 : decode cX5_count 210 = .ok (.bipush (-2), 2) := by decide +kernel
theorem dX5_count_212 : decode cX5_count 212 = .ok (.ireturn, 1) := by decide +kernel
theorem dX5_total_0 : decode cX5_total 0 = .ok (.aload_n 0, 1) := by decide +kernel
theorem dX5_total_1 : decode cX5_total 1 = .ok (.getfield 25, 3) := by decide +kernel
theorem dX5_total_4 : decode cX5_total 4 = .ok (.aload_n 0, 1) := by decide +kernel
theorem dX5_total_5 : decode cX5_total 5 = .ok (.getfield 12, 3) := by decide +kernel
theorem dX5_total_8 : decode cX5_total 8 = .ok (.getfield 69, 3) := by decide +kernel
theorem dX5_total_11 : decode cX5_total 11 = .ok (.aload_n 0, 1) := by decide +kernel
theorem dX5_total_12 : decode cX5_total 12 = .ok (.getfield 12, 3) := by decide +kernel
theorem dX5_total_15 : decode cX5_total 15 = .ok (.getfield 43, 3) := by decide +kernel
theorem dX5_total_18 : decode cX5_total 18 = .ok (.invokevirtual 246, 3) := by decide +kernel
theorem dX5_total_21 : decode cX5_total 21 = .ok (.aload_n 0, 1) := by decide +kernel
theorem dX5_total_22 : decode cX5_total 22 = .ok (.getfield 25, 3) := by decide +kernel
theorem dX5_total_25 : decode cX5_total 25 = .ok (.areturn, 1) := by decide +kernel
theorem dX5_isHourToCome_0 : decode cX5_isHourToCome 0 = .ok (.iload_n 1, 1) := by decide +kernel
theorem dX5_isHourToCome_1 : decode cX5_isHourToCome 1 = .ok (.aload_n 0, 1) := by decide +kernel
theorem dX5_isHourToCome_2 : decode cX5_isHourToCome 2 = .ok (.getfield 12, 3) := by decide +kernel
theorem dX5_isHourToCome_5 : decode cX5_isHourToCome 5 = .ok (.getfield 107, 3) := by decide +kernel
theorem dX5_isHourToCome_8 : decode cX5_isHourToCome 8 = .ok (.if_icmp .lt 17, 3) := by decide +kernel
theorem dX5_isHourToCome_11 : decode cX5_isHourToCome 11 = .ok (.iload_n 1, 1) := by decide +kernel
theorem dX5_isHourToCome_12 : decode cX5_isHourToCome 12 = .ok (.iconst 0, 1) := by decide +kernel
theorem dX5_isHourToCome_13 : decode cX5_isHourToCome 13 = .ok (.bipush 14, 2) := by decide +kernel
theorem dX5_isHourToCome_15 : decode cX5_isHourToCome 15 = .ok (.invokestatic 51, 3) := by decide +kernel
theorem dX5_isHourToCome_18 : decode cX5_isHourToCome 18 = .ok (.ifCond .eq 7, 3) := by decide +kernel
theorem dX5_isHourToCome_21 : decode cX5_isHourToCome 21 = .ok (.iconst 1, 1) := by decide +kernel
theorem dX5_isHourToCome_22 : decode cX5_isHourToCome 22 = .ok (.goto 4, 3) := by decide +kernel
theorem dX5_isHourToCome_25 : decode cX5_isHourToCome 25 = .ok (.iconst 0, 1) := by decide +kernel
theorem dX5_isHourToCome_26 : decode cX5_isHourToCome 26 = .ok (.ireturn, 1) := by decide +kernel
theorem dX5_isPaperNumber_0 : decode cX5_isPaperNumber 0 = .ok (.iload_n 0, 1) := by decide +kernel
theorem dX5_isPaperNumber_1 : decode cX5_isPaperNumber 1 = .ok (.iconst 1, 1) := by decide +kernel
theorem dX5_isPaperNumber_2 : decode cX5_isPaperNumber 2 = .ok (.sipush 9999, 3) := by decide +kernel
theorem dX5_isPaperNumber_5 : decode cX5_isPaperNumber 5 = .ok (.invokestatic 51, 3) := by decide +kernel
theorem dX5_isPaperNumber_8 : decode cX5_isPaperNumber 8 = .ok (.ireturn, 1) := by decide +kernel
theorem dX5_isWithin_0 : decode cX5_isWithin 0 = .ok (.iload_n 0, 1) := by decide +kernel
theorem dX5_isWithin_1 : decode cX5_isWithin 1 = .ok (.iload_n 1, 1) := by decide +kernel
theorem dX5_isWithin_2 : decode cX5_isWithin 2 = .ok (.if_icmp .lt 12, 3) := by decide +kernel
theorem dX5_isWithin_5 : decode cX5_isWithin 5 = .ok (.iload_n 0, 1) := by decide +kernel
theorem dX5_isWithin_6 : decode cX5_isWithin 6 = .ok (.iload_n 2, 1) := by decide +kernel
theorem dX5_isWithin_7 : decode cX5_isWithin 7 = .ok (.if_icmp .gt 7, 3) := by decide +kernel
theorem dX5_isWithin_10 : decode cX5_isWithin 10 = .ok (.iconst 1, 1) := by decide +kernel
theorem dX5_isWithin_11 : decode cX5_isWithin 11 = .ok (.goto 4, 3) := by decide +kernel
theorem dX5_isWithin_14 : decode cX5_isWithin 14 = .ok (.iconst 0, 1) := by decide +kernel
theorem dX5_isWithin_15 : decode cX5_isWithin 15 = .ok (.ireturn, 1) := by decide +kernel
theorem dX6_init_0 : decode cX6_init 0 = .ok (.aload_n 0, 1) := by decide +kernel
theorem dX6_init_1 : decode cX6_init 1 = .ok (.invokespecial 1, 3) := by decide +kernel
theorem dX6_init_4 : decode cX6_init 4 = .ok (.aload_n 0, 1) := by decide +kernel
theorem dX6_init_5 : decode cX6_init 5 = .ok (.sipush 237, 3) := by decide +kernel
theorem dX6_init_8 : decode cX6_init 8 = .ok (.newarray .int, 2) := by decide +kernel
theorem dX6_init_10 : decode cX6_init 10 = .ok (.putfield 7, 3) := by decide +kernel
theorem dX6_init_13 : decode cX6_init 13 = .ok (.aload_n 0, 1) := by decide +kernel
theorem dX6_init_14 : decode cX6_init 14 = .ok (.sipush 948, 3) := by decide +kernel
theorem dX6_init_17 : decode cX6_init 17 = .ok (.newarray .int, 2) := by decide +kernel
theorem dX6_init_19 : decode cX6_init 19 = .ok (.putfield 13, 3) := by decide +kernel
theorem dX6_init_22 : decode cX6_init 22 = .ok (.aload_n 0, 1) := by decide +kernel
theorem dX6_init_23 : decode cX6_init 23 = .ok (.sipush 237, 3) := by decide +kernel
theorem dX6_init_26 : decode cX6_init 26 = .ok (.newarray .int, 2) := by decide +kernel
theorem dX6_init_28 : decode cX6_init 28 = .ok (.putfield 16, 3) := by decide +kernel
theorem dX6_init_31 : decode cX6_init 31 = .ok (.aload_n 0, 1) := by decide +kernel
theorem dX6_init_32 : decode cX6_init 32 = .ok (.sipush 237, 3) := by decide +kernel
theorem dX6_init_35 : decode cX6_init 35 = .ok (.newarray .int, 2) := by decide +kernel
theorem dX6_init_37 : decode cX6_init 37 = .ok (.putfield 19, 3) := by decide +kernel
theorem dX6_init_40 : decode cX6_init 40 = .ok (.aload_n 0, 1) := by decide +kernel
theorem dX6_init_41 : decode cX6_init 41 = .ok (.bipush 60, 2) := by decide +kernel
theorem dX6_init_43 : decode cX6_init 43 = .ok (.newarray .int, 2) := by decide +kernel
theorem dX6_init_45 : decode cX6_init 45 = .ok (.putfield 22, 3) := by decide +kernel
theorem dX6_init_48 : decode cX6_init 48 = .ok (.aload_n 0, 1) := by decide +kernel
theorem dX6_init_49 : decode cX6_init 49 = .ok (.bipush 60, 2) := by decide +kernel
theorem dX6_init_51 : decode cX6_init 51 = .ok (.newarray .int, 2) := by decide +kernel
theorem dX6_init_53 : decode cX6_init 53 = .ok (.putfield 25, 3) := by decide +kernel
theorem dX6_init_56 : decode cX6_init 56 = .ok (.return_, 1) := by decide +kernel
theorem dX6_in_0 : decode cX6_in 0 = .ok (.iload_n 0, 1) := by decide +kernel
theorem dX6_in_1 : decode cX6_in 1 = .ok (.iload_n 1, 1) := by decide +kernel
theorem dX6_in_2 : decode cX6_in 2 = .ok (.if_icmp .lt 12, 3) := by decide +kernel
theorem dX6_in_5 : decode cX6_in 5 = .ok (.iload_n 0, 1) := by decide +kernel
theorem dX6_in_6 : decode cX6_in 6 = .ok (.iload_n 2, 1) := by decide +kernel
theorem dX6_in_7 : decode cX6_in 7 = .ok (.if_icmp .gt 7, 3) := by decide +kernel
theorem dX6_in_10 : decode cX6_in 10 = .ok (.iconst 1, 1) := by decide +kernel
theorem dX6_in_11 : decode cX6_in 11 = .ok (.goto 4, 3) := by decide +kernel
theorem dX6_in_14 : decode cX6_in 14 = .ok (.iconst 0, 1) := by decide +kernel
theorem dX6_in_15 : decode cX6_in 15 = .ok (.ireturn, 1) := by decide +kernel
theorem dX6_copies_0 : decode cX6_copies 0 = .ok (.iconst 0, 1) := by decide +kernel
theorem dX6_copies_1 : decode cX6_copies 1 = .ok (.istore 4, 2) := by decide +kernel
theorem dX6_copies_3 : decode cX6_copies 3 = .ok (.iload 4, 2) := by decide +kernel
theorem dX6_copies_5 : decode cX6_copies 5 = .ok (.sipush 237, 3) := by decide +kernel
theorem dX6_copies_8 : decode cX6_copies 8 = .ok (.if_icmp .ge 21, 3) := by decide +kernel
theorem dX6_copies_11 : decode cX6_copies 11 = .ok (.aload_n 2, 1) := by decide +kernel
theorem dX6_copies_12 : decode cX6_copies 12 = .ok (.iload_n 3, 1) := by decide +kernel
theorem dX6_copies_13 : decode cX6_copies 13 = .ok (.iload 4, 2) := by decide +kernel
theorem dX6_copies_15 : decode cX6_copies 15 = .ok (.iadd, 1) := by decide +kernel
theorem dX6_copies_16 : decode cX6_copies 16 = .ok (.aload_n 0, 1) := by decide +kernel
theorem dX6_copies_17 : decode cX6_copies 17 = .ok (.iload_n 1, 1) := by decide +kernel
theorem dX6_copies_18 : decode cX6_copies 18 = .ok (.iload 4, 2) := by decide +kernel
theorem dX6_copies_20 : decode cX6_copies 20 = .ok (.iadd, 1) := by decide +kernel
theorem dX6_copies_21 : decode cX6_copies 21 = .ok (.iaload, 1) := by decide +kernel
theorem dX6_copies_22 : decode cX6_copies 22 = .ok (.iastore, 1) := by decide +kernel
theorem dX6_copies_23 : decode cX6_copies 23 = .ok (.iinc 4 1, 3) := by decide +kernel
theorem dX6_copies_26 : decode cX6_copies 26 = .ok (.goto (-23), 3) := by decide +kernel
theorem dX6_copies_29 : decode cX6_copies 29 = .ok (.return_, 1) := by decide +kernel
theorem dX6_records_0 : decode cX6_records 0 = .ok (.aload_n 0, 1) := by decide +kernel
theorem dX6_records_1 : decode cX6_records 1 = .ok (.getfield 28, 3) := by decide +kernel
theorem dX6_records_4 : decode cX6_records 4 = .ok (.iconst 4, 1) := by decide +kernel
theorem dX6_records_5 : decode cX6_records 5 = .ok (.if_icmp .ne 39, 3) := by decide +kernel
theorem dX6_records_8 : decode cX6_records 8 = .ok (.iconst 0, 1) := by decide +kernel
theorem dX6_records_9 : decode cX6_records 9 = .ok (.istore_n 1, 1) := by decide +kernel
theorem dX6_records_10 : decode cX6_records 10 = .ok (.iload_n 1, 1) := by decide +kernel
theorem dX6_records_11 : decode cX6_records 11 = .ok (.sipush 711, 3) := by decide +kernel
theorem dX6_records_14 : decode cX6_records 14 = .ok (.if_icmp .ge 25, 3) := by decide +kernel
theorem dX6_records_17 : decode cX6_records 17 = .ok (.aload_n 0, 1) := by decide +kernel
theorem dX6_records_18 : decode cX6_records 18 = .ok (.getfield 13, 3) := by decide +kernel
theorem dX6_records_21 : decode cX6_records 21 = .ok (.iload_n 1, 1) := by decide +kernel
theorem dX6_records_22 : decode cX6_records 22 = .ok (.aload_n 0, 1) := by decide +kernel
theorem dX6_records_23 : decode cX6_records 23 = .ok (.getfield 13, 3) := by decide +kernel
theorem dX6_records_26 : decode cX6_records 26 = .ok (.iload_n 1, 1) := by decide +kernel
theorem dX6_records_27 : decode cX6_records 27 = .ok (.sipush 237, 3) := by decide +kernel
theorem dX6_records_30 : decode cX6_records 30 = .ok (.iadd, 1) := by decide +kernel
theorem dX6_records_31 : decode cX6_records 31 = .ok (.iaload, 1) := by decide +kernel
theorem dX6_records_32 : decode cX6_records 32 = .ok (.iastore, 1) := by decide +kernel
theorem dX6_records_33 : decode cX6_records 33 = .ok (.iinc 1 1, 3) := by decide +kernel
theorem dX6_records_36 : decode cX6_records 36 = .ok (.goto (-26), 3) := by decide +kernel
theorem dX6_records_39 : decode cX6_records 39 = .ok (.aload_n 0, 1) := by decide +kernel
theorem dX6_records_40 : decode cX6_records 40 = .ok (.iconst 3, 1) := by decide +kernel
theorem dX6_records_41 : decode cX6_records 41 = .ok (.putfield 28, 3) := by decide +kernel
theorem dX6_records_44 : decode cX6_records 44 = .ok (.aload_n 0, 1) := by decide +kernel
theorem dX6_records_45 : decode cX6_records 45 = .ok (.getfield 7, 3) := by decide +kernel
theorem dX6_records_48 : decode cX6_records 48 = .ok (.iconst 0, 1) := by decide +kernel
theorem dX6_records_49 : decode cX6_records 49 = .ok (.aload_n 0, 1) := by decide +kernel
theorem dX6_records_50 : decode cX6_records 50 = .ok (.getfield 13, 3) := by decide +kernel
theorem dX6_records_53 : decode cX6_records 53 = .ok (.aload_n 0, 1) := by decide +kernel
theorem dX6_records_54 : decode cX6_records 54 = .ok (.getfield 28, 3) := by decide +kernel
theorem dX6_records_57 : decode cX6_records 57 = .ok (.sipush 237, 3) := by decide +kernel
theorem dX6_records_60 : decode cX6_records 60 = .ok (.imul, 1) := by decide +kernel
theorem dX6_records_61 : decode cX6_records 61 = .ok (.invokestatic 32, 3) := by decide +kernel
theorem dX6_records_64 : decode cX6_records 64 = .ok (.aload_n 0, 1) := by decide +kernel
theorem dX6_records_65 : decode cX6_records 65 = .ok (.dup, 1) := by decide +kernel
theorem dX6_records_66 : decode cX6_records 66 = .ok (.getfield 28, 3) := by decide +kernel
theorem dX6_records_69 : decode cX6_records 69 = .ok (.iconst 1, 1) := by decide +kernel
theorem dX6_records_70 : decode cX6_records 70 = .ok (.iadd, 1) := by decide +kernel
theorem dX6_records_71 : decode cX6_records 71 = .ok (.putfield 28, 3) := by decide +kernel
theorem dX6_records_74 : decode cX6_records 74 = .ok (.return_, 1) := by decide +kernel
theorem dX6_isStation_0 : decode cX6_isStation 0 = .ok (.iload_n 1, 1) := by decide +kernel
theorem dX6_isStation_1 : decode cX6_isStation 1 = .ok (.iconst 0, 1) := by decide +kernel
theorem dX6_isStation_2 : decode cX6_isStation 2 = .ok (.aload_n 0, 1) := by decide +kernel
theorem dX6_isStation_3 : decode cX6_isStation 3 = .ok (.getfield 7, 3) := by decide +kernel
theorem dX6_isStation_6 : decode cX6_isStation 6 = .ok (.iconst 1, 1) := by decide +kernel
theorem dX6_isStation_7 : decode cX6_isStation 7 = .ok (.iaload, 1) := by decide +kernel
theorem dX6_isStation_8 : decode cX6_isStation 8 = .ok (.iconst 1, 1) := by decide +kernel
theorem dX6_isStation_9 : decode cX6_isStation 9 = .ok (.isub, 1) := by decide +kernel
theorem dX6_isStation_10 : decode cX6_isStation 10 = .ok (.invokestatic 36, 3) := by decide +kernel
theorem dX6_isStation_13 : decode cX6_isStation 13 = .ok (.ireturn, 1) := by decide +kernel
theorem dX6_isClerk_0 : decode cX6_isClerk 0 = .ok (.iload_n 1, 1) := by decide +kernel
theorem dX6_isClerk_1 : decode cX6_isClerk 1 = .ok (.iconst 0, 1) := by decide +kernel
theorem dX6_isClerk_2 : decode cX6_isClerk 2 = .ok (.aload_n 0, 1) := by decide +kernel
theorem dX6_isClerk_3 : decode cX6_isClerk 3 = .ok (.getfield 7, 3) := by decide +kernel
theorem dX6_isClerk_6 : decode cX6_isClerk 6 = .ok (.iconst 2, 1) := by decide +kernel
theorem dX6_isClerk_7 : decode cX6_isClerk 7 = .ok (.iaload, 1) := by decide +kernel
theorem dX6_isClerk_8 : decode cX6_isClerk 8 = .ok (.iconst 1, 1) := by decide +kernel
theorem dX6_isClerk_9 : decode cX6_isClerk 9 = .ok (.isub, 1) := by decide +kernel
theorem dX6_isClerk_10 : decode cX6_isClerk 10 = .ok (.invokestatic 36, 3) := by decide +kernel
theorem dX6_isClerk_13 : decode cX6_isClerk 13 = .ok (.ireturn, 1) := by decide +kernel
theorem dX6_of_0 : decode cX6_of 0 = .ok (.aload_n 0, 1) := by decide +kernel
theorem dX6_of_1 : decode cX6_of 1 = .ok (.getfield 7, 3) := by decide +kernel
theorem dX6_of_4 : decode cX6_of 4 = .ok (.iconst 3, 1) := by decide +kernel
theorem dX6_of_5 : decode cX6_of 5 = .ok (.bipush 27, 2) := by decide +kernel
theorem dX6_of_7 : decode cX6_of 7 = .ok (.iload_n 1, 1) := by decide +kernel
theorem dX6_of_8 : decode cX6_of 8 = .ok (.imul, 1) := by decide +kernel
theorem dX6_of_9 : decode cX6_of 9 = .ok (.iadd, 1) := by decide +kernel
theorem dX6_of_10 : decode cX6_of 10 = .ok (.iload_n 2, 1) := by decide +kernel
theorem dX6_of_11 : decode cX6_of 11 = .ok (.iadd, 1) := by decide +kernel
theorem dX6_of_12 : decode cX6_of 12 = .ok (.iaload, 1) := by decide +kernel
theorem dX6_of_13 : decode cX6_of 13 = .ok (.ireturn, 1) := by decide +kernel
theorem dX6_adds_0 : decode cX6_adds 0 = .ok (.aload_n 0, 1) := by decide +kernel
theorem dX6_adds_1 : decode cX6_adds 1 = .ok (.getfield 7, 3) := by decide +kernel
theorem dX6_adds_4 : decode cX6_adds 4 = .ok (.iconst 3, 1) := by decide +kernel
theorem dX6_adds_5 : decode cX6_adds 5 = .ok (.bipush 27, 2) := by decide +kernel
theorem dX6_adds_7 : decode cX6_adds 7 = .ok (.iload_n 1, 1) := by decide +kernel
theorem dX6_adds_8 : decode cX6_adds 8 = .ok (.imul, 1) := by decide +kernel
theorem dX6_adds_9 : decode cX6_adds 9 = .ok (.iadd, 1) := by decide +kernel
theorem dX6_adds_10 : decode cX6_adds 10 = .ok (.iload_n 2, 1) := by decide +kernel
theorem dX6_adds_11 : decode cX6_adds 11 = .ok (.iadd, 1) := by decide +kernel
theorem dX6_adds_12 : decode cX6_adds 12 = .ok (.dup2, 1) := by decide +kernel
theorem dX6_adds_13 : decode cX6_adds 13 = .ok (.iaload, 1) := by decide +kernel
theorem dX6_adds_14 : decode cX6_adds 14 = .ok (.iload_n 3, 1) := by decide +kernel
theorem dX6_adds_15 : decode cX6_adds 15 = .ok (.iadd, 1) := by decide +kernel
theorem dX6_adds_16 : decode cX6_adds 16 = .ok (.iastore, 1) := by decide +kernel
theorem dX6_adds_17 : decode cX6_adds 17 = .ok (.return_, 1) := by decide +kernel
theorem dX6_ofClerk_0 : decode cX6_ofClerk 0 = .ok (.aload_n 0, 1) := by decide +kernel
theorem dX6_ofClerk_1 : decode cX6_ofClerk 1 = .ok (.getfield 7, 3) := by decide +kernel
theorem dX6_ofClerk_4 : decode cX6_ofClerk 4 = .ok (.sipush 165, 3) := by decide +kernel
theorem dX6_ofClerk_7 : decode cX6_ofClerk 7 = .ok (.bipush 6, 2) := by decide +kernel
theorem dX6_ofClerk_9 : decode cX6_ofClerk 9 = .ok (.iload_n 1, 1) := by decide +kernel
theorem dX6_ofClerk_10 : decode cX6_ofClerk 10 = .ok (.imul, 1) := by decide +kernel
theorem dX6_ofClerk_11 : decode cX6_ofClerk 11 = .ok (.iadd, 1) := by decide +kernel
theorem dX6_ofClerk_12 : decode cX6_ofClerk 12 = .ok (.iload_n 2, 1) := by decide +kernel
theorem dX6_ofClerk_13 : decode cX6_ofClerk 13 = .ok (.iadd, 1) := by decide +kernel
theorem dX6_ofClerk_14 : decode cX6_ofClerk 14 = .ok (.iaload, 1) := by decide +kernel
theorem dX6_ofClerk_15 : decode cX6_ofClerk 15 = .ok (.ireturn, 1) := by decide +kernel
theorem dX6_laysClerk_0 : decode cX6_laysClerk 0 = .ok (.aload_n 0, 1) := by decide +kernel
theorem dX6_laysClerk_1 : decode cX6_laysClerk 1 = .ok (.getfield 7, 3) := by decide +kernel
theorem dX6_laysClerk_4 : decode cX6_laysClerk 4 = .ok (.sipush 165, 3) := by decide +kernel
theorem dX6_laysClerk_7 : decode cX6_laysClerk 7 = .ok (.bipush 6, 2) := by decide +kernel
theorem dX6_laysClerk_9 : decode cX6_laysClerk 9 = .ok (.iload_n 1, 1) := by decide +kernel
theorem dX6_laysClerk_10 : decode cX6_laysClerk 10 = .ok (.imul, 1) := by decide +kernel
theorem dX6_laysClerk_11 : decode cX6_laysClerk 11 = .ok (.iadd, 1) := by decide +kernel
theorem dX6_laysClerk_12 : decode cX6_laysClerk 12 = .ok (.iload_n 2, 1) := by decide +kernel
theorem dX6_laysClerk_13 : decode cX6_laysClerk 13 = .ok (.iadd, 1) := by decide +kernel
theorem dX6_laysClerk_14 : decode cX6_laysClerk 14 = .ok (.iload_n 3, 1) := by decide +kernel
theorem dX6_laysClerk_15 : decode cX6_laysClerk 15 = .ok (.iastore, 1) := by decide +kernel
theorem dX6_laysClerk_16 : decode cX6_laysClerk 16 = .ok (.return_, 1) := by decide +kernel
theorem dX6_addStation_0 : decode cX6_addStation 0 = .ok (.aload_n 0, 1) := by decide +kernel
theorem dX6_addStation_1 : decode cX6_addStation 1 = .ok (.getfield 7, 3) := by decide +kernel
theorem dX6_addStation_4 : decode cX6_addStation 4 = .ok (.iconst 1, 1) := by decide +kernel
theorem dX6_addStation_5 : decode cX6_addStation 5 = .ok (.iaload, 1) := by decide +kernel
theorem dX6_addStation_6 : decode cX6_addStation 6 = .ok (.bipush 6, 2) := by decide +kernel
theorem dX6_addStation_8 : decode cX6_addStation 8 = .ok (.if_icmp .ne 6, 3) := by decide +kernel
theorem dX6_addStation_11 : decode cX6_addStation 11 = .ok (.bipush (-3), 2) := by decide +kernel
theorem dX6_addStation_13 : decode cX6_addStation 13 = .ok (.ireturn, 1) := by decide +kernel
theorem dX6_addStation_14 : decode cX6_addStation 14 = .ok (.aload_n 0, 1) := by decide +kernel
theorem dX6_addStation_15 : decode cX6_addStation 15 = .ok (.invokevirtual 40, 3) := by decide +kernel
theorem dX6_addStation_18 : decode cX6_addStation 18 = .ok (.aload_n 0, 1) := by decide +kernel
theorem dX6_addStation_19 : decode cX6_addStation 19 = .ok (.aload_n 0, 1) := by decide +kernel
theorem dX6_addStation_20 : decode cX6_addStation 20 = .ok (.getfield 7, 3) := by decide +kernel
theorem dX6_addStation_23 : decode cX6_addStation 23 = .ok (.iconst 1, 1) := by decide +kernel
theorem dX6_addStation_24 : decode cX6_addStation 24 = .ok (.iaload, 1) := by decide +kernel
theorem dX6_addStation_25 : decode cX6_addStation 25 = .ok (.bipush 10, 2) := by decide +kernel
theorem dX6_addStation_27 : decode cX6_addStation 27 = .ok (.iconst (-1), 1) := by decide +kernel
theorem dX6_addStation_28 : decode cX6_addStation 28 = .ok (.invokevirtual 43, 3) := by decide +kernel
theorem dX6_addStation_31 : decode cX6_addStation 31 = .ok (.aload_n 0, 1) := by decide +kernel
theorem dX6_addStation_32 : decode cX6_addStation 32 = .ok (.getfield 7, 3) := by decide +kernel
theorem dX6_addStation_35 : decode cX6_addStation 35 = .ok (.iconst 1, 1) := by decide +kernel
theorem dX6_addStation_36 : decode cX6_addStation 36 = .ok (.dup2, 1) := by decide +kernel
theorem dX6_addStation_37 : decode cX6_addStation 37 = .ok (.iaload, 1) := by decide +kernel
theorem dX6_addStation_38 : decode cX6_addStation 38 = .ok (.iconst 1, 1) := by decide +kernel
theorem dX6_addStation_39 : decode cX6_addStation 39 = .ok (.iadd, 1) := by decide +kernel
theorem dX6_addStation_40 : decode cX6_addStation 40 = .ok (.iastore, 1) := by decide +kernel
theorem dX6_addStation_41 : decode cX6_addStation 41 = .ok (.aload_n 0, 1) := by decide +kernel
theorem dX6_addStation_42 : decode cX6_addStation 42 = .ok (.getfield 7, 3) := by decide +kernel
theorem dX6_addStation_45 : decode cX6_addStation 45 = .ok (.iconst 1, 1) := by decide +kernel
theorem dX6_addStation_46 : decode cX6_addStation 46 = .ok (.iaload, 1) := by decide +kernel
theorem dX6_addStation_47 : decode cX6_addStation 47 = .ok (.iconst 1, 1) := by decide +kernel
theorem dX6_addStation_48 : decode cX6_addStation 48 = .ok (.isub, 1) := by decide +kernel
theorem dX6_addStation_49 : decode cX6_addStation 49 = .ok (.ireturn, 1) := by decide +kernel
theorem dX6_addClerk_0 : decode cX6_addClerk 0 = .ok (.iload_n 1, 1) := by decide +kernel
theorem dX6_addClerk_1 : decode cX6_addClerk 1 = .ok (.iconst 1, 1) := by decide +kernel
theorem dX6_addClerk_2 : decode cX6_addClerk 2 = .ok (.bipush 60, 2) := by decide +kernel
theorem dX6_addClerk_4 : decode cX6_addClerk 4 = .ok (.invokestatic 36, 3) := by decide +kernel
theorem dX6_addClerk_7 : decode cX6_addClerk 7 = .ok (.ifCond .eq 13, 3) := by decide +kernel
theorem dX6_addClerk_10 : decode cX6_addClerk 10 = .ok (.iload_n 2, 1) := by decide +kernel
theorem dX6_addClerk_11 : decode cX6_addClerk 11 = .ok (.iconst 1, 1) := by decide +kernel
theorem dX6_addClerk_12 : decode cX6_addClerk 12 = .ok (.bipush 6, 2) := by decide +kernel
theorem dX6_addClerk_14 : decode cX6_addClerk 14 = .ok (.invokestatic 36, 3) := by decide +kernel
theorem dX6_addClerk_17 : decode cX6_addClerk 17 = .ok (.ifCond .ne 6, 3) := by decide +kernel
theorem dX6_addClerk_20 : decode cX6_addClerk 20 = .ok (.bipush (-2), 2) := by decide +kernel
theorem dX6_addClerk_22 : decode cX6_addClerk 22 = .ok (.ireturn, 1) := by decide +kernel
theorem dX6_addClerk_23 : decode cX6_addClerk 23 = .ok (.aload_n 0, 1) := by decide +kernel
theorem dX6_addClerk_24 : decode cX6_addClerk 24 = .ok (.getfield 7, 3) := by decide +kernel
theorem dX6_addClerk_27 : decode cX6_addClerk 27 = .ok (.iconst 2, 1) := by decide +kernel
theorem dX6_addClerk_28 : decode cX6_addClerk 28 = .ok (.iaload, 1) := by decide +kernel
theorem dX6_addClerk_29 : decode cX6_addClerk 29 = .ok (.bipush 12, 2) := by decide +kernel
theorem dX6_addClerk_31 : decode cX6_addClerk 31 = .ok (.if_icmp .ne 6, 3) := by decide +kernel
theorem dX6_addClerk_34 : decode cX6_addClerk 34 = .ok (.bipush (-3), 2) := by decide +kernel
theorem dX6_addClerk_36 : decode cX6_addClerk 36 = .ok (.ireturn, 1) := by decide +kernel
theorem dX6_addClerk_37 : decode cX6_addClerk 37 = .ok (.aload_n 0, 1) := by decide +kernel
theorem dX6_addClerk_38 : decode cX6_addClerk 38 = .ok (.invokevirtual 40, 3) := by decide +kernel
theorem dX6_addClerk_41 : decode cX6_addClerk 41 = .ok (.aload_n 0, 1) := by decide +kernel
theorem dX6_addClerk_42 : decode cX6_addClerk 42 = .ok (.getfield 7, 3) := by decide +kernel
theorem dX6_addClerk_45 : decode cX6_addClerk 45 = .ok (.iconst 2, 1) := by decide +kernel
theorem dX6_addClerk_46 : decode cX6_addClerk 46 = .ok (.iaload, 1) := by decide +kernel
theorem dX6_addClerk_47 : decode cX6_addClerk 47 = .ok (.istore_n 3, 1) := by decide +kernel
theorem dX6_addClerk_48 : decode cX6_addClerk 48 = .ok (.aload_n 0, 1) := by decide +kernel
theorem dX6_addClerk_49 : decode cX6_addClerk 49 = .ok (.iload_n 3, 1) := by decide +kernel
theorem dX6_addClerk_50 : decode cX6_addClerk 50 = .ok (.iconst 0, 1) := by decide +kernel
theorem dX6_addClerk_51 : decode cX6_addClerk 51 = .ok (.iload_n 1, 1) := by decide +kernel
theorem dX6_addClerk_52 : decode cX6_addClerk 52 = .ok (.invokevirtual 47, 3) := by decide +kernel
theorem dX6_addClerk_55 : decode cX6_addClerk 55 = .ok (.aload_n 0, 1) := by decide +kernel
theorem dX6_addClerk_56 : decode cX6_addClerk 56 = .ok (.iload_n 3, 1) := by decide +kernel
theorem dX6_addClerk_57 : decode cX6_addClerk 57 = .ok (.iconst 1, 1) := by decide +kernel
theorem dX6_addClerk_58 : decode cX6_addClerk 58 = .ok (.iload_n 2, 1) := by decide +kernel
theorem dX6_addClerk_59 : decode cX6_addClerk 59 = .ok (.invokevirtual 47, 3) := by decide +kernel
theorem dX6_addClerk_62 : decode cX6_addClerk 62 = .ok (.aload_n 0, 1) := by decide +kernel
theorem dX6_addClerk_63 : decode cX6_addClerk 63 = .ok (.iload_n 3, 1) := by decide +kernel
theorem dX6_addClerk_64 : decode cX6_addClerk 64 = .ok (.iconst 2, 1) := by decide +kernel
theorem dX6_addClerk_65 : decode cX6_addClerk 65 = .ok (.iconst (-1), 1) := by decide +kernel
theorem dX6_addClerk_66 : decode cX6_addClerk 66 = .ok (.invokevirtual 47, 3) := by decide +kernel
theorem dX6_addClerk_69 : decode cX6_addClerk 69 = .ok (.aload_n 0, 1) := by decide +kernel
theorem dX6_addClerk_70 : decode cX6_addClerk 70 = .ok (.getfield 7, 3) := by decide +kernel
theorem dX6_addClerk_73 : decode cX6_addClerk 73 = .ok (.iconst 2, 1) := by decide +kernel
theorem dX6_addClerk_74 : decode cX6_addClerk 74 = .ok (.dup2, 1) := by decide +kernel
theorem dX6_addClerk_75 : decode cX6_addClerk 75 = .ok (.iaload, 1) := by decide +kernel
theorem dX6_addClerk_76 : decode cX6_addClerk 76 = .ok (.iconst 1, 1) := by decide +kernel
theorem dX6_addClerk_77 : decode cX6_addClerk 77 = .ok (.iadd, 1) := by decide +kernel
theorem dX6_addClerk_78 : decode cX6_addClerk 78 = .ok (.iastore, 1) := by decide +kernel
theorem dX6_addClerk_79 : decode cX6_addClerk 79 = .ok (.iload_n 3, 1) := by decide +kernel
theorem dX6_addClerk_80 : decode cX6_addClerk 80 = .ok (.ireturn, 1) := by decide +kernel
theorem dX6_setArrivals_0 : decode cX6_setArrivals 0 = .ok (.aload_n 0, 1) := by decide +kernel
theorem dX6_setArrivals_1 : decode cX6_setArrivals 1 = .ok (.iload_n 1, 1) := by decide +kernel
theorem dX6_setArrivals_2 : decode cX6_setArrivals 2 = .ok (.invokevirtual 50, 3) := by decide +kernel
theorem dX6_setArrivals_5 : decode cX6_setArrivals 5 = .ok (.ifCond .ne 5, 3) := by decide +kernel
theorem dX6_setArrivals_8 : decode cX6_setArrivals 8 = .ok (.iconst (-1), 1) := by decide +kernel
theorem dX6_setArrivals_9 : decode cX6_setArrivals 9 = .ok (.ireturn, 1) := by decide +kernel
theorem dX6_setArrivals_10 : decode cX6_setArrivals 10 = .ok (.iload_n 2, 1) := by decide +kernel
theorem dX6_setArrivals_11 : decode cX6_setArrivals 11 = .ok (.aload_n 0, 1) := by decide +kernel
theorem dX6_setArrivals_12 : decode cX6_setArrivals 12 = .ok (.getfield 7, 3) := by decide +kernel
theorem dX6_setArrivals_15 : decode cX6_setArrivals 15 = .ok (.iconst 0, 1) := by decide +kernel
theorem dX6_setArrivals_16 : decode cX6_setArrivals 16 = .ok (.iaload, 1) := by decide +kernel
theorem dX6_setArrivals_17 : decode cX6_setArrivals 17 = .ok (.bipush 14, 2) := by decide +kernel
theorem dX6_setArrivals_19 : decode cX6_setArrivals 19 = .ok (.invokestatic 36, 3) := by decide +kernel
theorem dX6_setArrivals_22 : decode cX6_setArrivals 22 = .ok (.ifCond .eq 14, 3) := by decide +kernel
theorem dX6_setArrivals_25 : decode cX6_setArrivals 25 = .ok (.iload_n 3, 1) := by decide +kernel
theorem dX6_setArrivals_26 : decode cX6_setArrivals 26 = .ok (.iconst 0, 1) := by decide +kernel
theorem dX6_setArrivals_27 : decode cX6_setArrivals 27 = .ok (.sipush 500, 3) := by decide +kernel
theorem dX6_setArrivals_30 : decode cX6_setArrivals 30 = .ok (.invokestatic 36, 3) := by decide +kernel
theorem dX6_setArrivals_33 : decode cX6_setArrivals 33 = .ok (.ifCond .ne 6, 3) := by decide +kernel
theorem dX6_setArrivals_36 : decode cX6_setArrivals 36 = .ok (.bipush (-2), 2) := by decide +kernel
theorem dX6_setArrivals_38 : decode cX6_setArrivals 38 = .ok (.ireturn, 1) := by decide +kernel
theorem dX6_setArrivals_39 : decode cX6_setArrivals 39 = .ok (.aload_n 0, 1) := by decide +kernel
theorem dX6_setArrivals_40 : decode cX6_setArrivals 40 = .ok (.iload_n 1, 1) := by decide +kernel
theorem dX6_setArrivals_41 : decode cX6_setArrivals 41 = .ok (.bipush 12, 2) := by decide +kernel
theorem dX6_setArrivals_43 : decode cX6_setArrivals 43 = .ok (.iload_n 2, 1) := by decide +kernel
theorem dX6_setArrivals_44 : decode cX6_setArrivals 44 = .ok (.iadd, 1) := by decide +kernel
theorem dX6_setArrivals_45 : decode cX6_setArrivals 45 = .ok (.invokevirtual 54, 3) := by decide +kernel
theorem dX6_setArrivals_48 : decode cX6_setArrivals 48 = .ok (.istore 4, 2) := by decide +kernel
theorem dX6_setArrivals_50 : decode cX6_setArrivals 50 = .ok (.iload 4, 2) := by decide +kernel
theorem dX6_setArrivals_52 : decode cX6_setArrivals 52 = .ok (.iload_n 3, 1) := by decide +kernel
theorem dX6_setArrivals_53 : decode cX6_setArrivals 53 = .ok (.if_icmp .ne 6, 3) := by decide +kernel
theorem dX6_setArrivals_56 : decode cX6_setArrivals 56 = .ok (.bipush (-5), 2) := by decide +kernel
theorem dX6_setArrivals_58 : decode cX6_setArrivals 58 = .ok (.ireturn, 1) := by decide +kernel
theorem dX6_setArrivals_59 : decode cX6_setArrivals 59 = .ok (.aload_n 0, 1) := by decide +kernel
theorem dX6_setArrivals_60 : decode cX6_setArrivals 60 = .ok (.invokevirtual 40, 3) := by decide +kernel
theorem dX6_setArrivals_63 : decode cX6_setArrivals 63 = .ok (.aload_n 0, 1) := by decide +kernel
theorem dX6_setArrivals_64 : decode cX6_setArrivals 64 = .ok (.iload_n 1, 1) := by decide +kernel
theorem dX6_setArrivals_65 : decode cX6_setArrivals 65 = .ok (.bipush 12, 2) := by decide +kernel
theorem dX6_setArrivals_67 : decode cX6_setArrivals 67 = .ok (.iload_n 2, 1) := by decide +kernel
theorem dX6_setArrivals_68 : decode cX6_setArrivals 68 = .ok (.iadd, 1) := by decide +kernel
theorem dX6_setArrivals_69 : decode cX6_setArrivals 69 = .ok (.iload_n 3, 1) := by decide +kernel
theorem dX6_setArrivals_70 : decode cX6_setArrivals 70 = .ok (.iload 4, 2) := by decide +kernel
theorem dX6_setArrivals_72 : decode cX6_setArrivals 72 = .ok (.isub, 1) := by decide +kernel
theorem dX6_setArrivals_73 : decode cX6_setArrivals 73 = .ok (.invokevirtual 43, 3) := by decide +kernel
theorem dX6_setArrivals_76 : decode cX6_setArrivals 76 = .ok (.iload 4, 2) := by decide +kernel
theorem dX6_setArrivals_78 : decode cX6_setArrivals 78 = .ok (.ireturn, 1) := by decide +kernel
theorem dX6_isFree_0 : decode cX6_isFree 0 = .ok (.aload_n 0, 1) := by decide +kernel
theorem dX6_isFree_1 : decode cX6_isFree 1 = .ok (.iload_n 1, 1) := by decide +kernel
theorem dX6_isFree_2 : decode cX6_isFree 2 = .ok (.iconst 2, 1) := by decide +kernel
theorem dX6_isFree_3 : decode cX6_isFree 3 = .ok (.invokevirtual 58, 3) := by decide +kernel
theorem dX6_isFree_6 : decode cX6_isFree 6 = .ok (.iconst (-1), 1) := by decide +kernel
theorem dX6_isFree_7 : decode cX6_isFree 7 = .ok (.if_icmp .ne 16, 3) := by decide +kernel
theorem dX6_isFree_10 : decode cX6_isFree 10 = .ok (.aload_n 0, 1) := by decide +kernel
theorem dX6_isFree_11 : decode cX6_isFree 11 = .ok (.iload_n 1, 1) := by decide +kernel
theorem dX6_isFree_12 : decode cX6_isFree 12 = .ok (.iconst 5, 1) := by decide +kernel
theorem dX6_isFree_13 : decode cX6_isFree 13 = .ok (.invokevirtual 58, 3) := by decide +kernel
theorem dX6_isFree_16 : decode cX6_isFree 16 = .ok (.ifCond .ne 7, 3) := by decide +kernel
theorem dX6_isFree_19 : decode cX6_isFree 19 = .ok (.iconst 1, 1) := by decide +kernel
theorem dX6_isFree_20 : decode cX6_isFree 20 = .ok (.goto 4, 3) := by decide +kernel
theorem dX6_isFree_23 : decode cX6_isFree 23 = .ok (.iconst 0, 1) := by decide +kernel
theorem dX6_isFree_24 : decode cX6_isFree 24 = .ok (.ireturn, 1) := by decide +kernel
theorem dX6_aheadOf_0 : decode cX6_aheadOf 0 = .ok (.iconst 0, 1) := by decide +kernel
theorem dX6_aheadOf_1 : decode cX6_aheadOf 1 = .ok (.istore_n 2, 1) := by decide +kernel
theorem dX6_aheadOf_2 : decode cX6_aheadOf 2 = .ok (.iconst 0, 1) := by decide +kernel
theorem dX6_aheadOf_3 : decode cX6_aheadOf 3 = .ok (.istore_n 3, 1) := by decide +kernel
theorem dX6_aheadOf_4 : decode cX6_aheadOf 4 = .ok (.iload_n 3, 1) := by decide +kernel
theorem dX6_aheadOf_5 : decode cX6_aheadOf 5 = .ok (.aload_n 0, 1) := by decide +kernel
theorem dX6_aheadOf_6 : decode cX6_aheadOf 6 = .ok (.getfield 7, 3) := by decide +kernel
theorem dX6_aheadOf_9 : decode cX6_aheadOf 9 = .ok (.iconst 2, 1) := by decide +kernel
theorem dX6_aheadOf_10 : decode cX6_aheadOf 10 = .ok (.iaload, 1) := by decide +kernel
theorem dX6_aheadOf_11 : decode cX6_aheadOf 11 = .ok (.if_icmp .ge 72, 3) := by decide +kernel
theorem dX6_aheadOf_14 : decode cX6_aheadOf 14 = .ok (.aload_n 0, 1) := by decide +kernel
theorem dX6_aheadOf_15 : decode cX6_aheadOf 15 = .ok (.iload_n 3, 1) := by decide +kernel
theorem dX6_aheadOf_16 : decode cX6_aheadOf 16 = .ok (.iconst 4, 1) := by decide +kernel
theorem dX6_aheadOf_17 : decode cX6_aheadOf 17 = .ok (.invokevirtual 58, 3) := by decide +kernel
theorem dX6_aheadOf_20 : decode cX6_aheadOf 20 = .ok (.istore 4, 2) := by decide +kernel
theorem dX6_aheadOf_22 : decode cX6_aheadOf 22 = .ok (.iload 4, 2) := by decide +kernel
theorem dX6_aheadOf_24 : decode cX6_aheadOf 24 = .ok (.aload_n 0, 1) := by decide +kernel
theorem dX6_aheadOf_25 : decode cX6_aheadOf 25 = .ok (.iload_n 1, 1) := by decide +kernel
theorem dX6_aheadOf_26 : decode cX6_aheadOf 26 = .ok (.iconst 4, 1) := by decide +kernel
theorem dX6_aheadOf_27 : decode cX6_aheadOf 27 = .ok (.invokevirtual 58, 3) := by decide +kernel
theorem dX6_aheadOf_30 : decode cX6_aheadOf 30 = .ok (.if_icmp .lt 19, 3) := by decide +kernel
theorem dX6_aheadOf_33 : decode cX6_aheadOf 33 = .ok (.iload 4, 2) := by decide +kernel
theorem dX6_aheadOf_35 : decode cX6_aheadOf 35 = .ok (.aload_n 0, 1) := by decide +kernel
theorem dX6_aheadOf_36 : decode cX6_aheadOf 36 = .ok (.iload_n 1, 1) := by decide +kernel
theorem dX6_aheadOf_37 : decode cX6_aheadOf 37 = .ok (.iconst 4, 1) := by decide +kernel
theorem dX6_aheadOf_38 : decode cX6_aheadOf 38 = .ok (.invokevirtual 58, 3) := by decide +kernel
theorem dX6_aheadOf_41 : decode cX6_aheadOf 41 = .ok (.if_icmp .ne 12, 3) := by decide +kernel
theorem dX6_aheadOf_44 : decode cX6_aheadOf 44 = .ok (.iload_n 3, 1) := by decide +kernel
theorem dX6_aheadOf_45 : decode cX6_aheadOf 45 = .ok (.iload_n 1, 1) := by decide +kernel
theorem dX6_aheadOf_46 : decode cX6_aheadOf 46 = .ok (.if_icmp .ge 7, 3) := by decide +kernel
theorem dX6_aheadOf_49 : decode cX6_aheadOf 49 = .ok (.iconst 1, 1) := by decide +kernel
theorem dX6_aheadOf_50 : decode cX6_aheadOf 50 = .ok (.goto 4, 3) := by decide +kernel
theorem dX6_aheadOf_53 : decode cX6_aheadOf 53 = .ok (.iconst 0, 1) := by decide +kernel
theorem dX6_aheadOf_54 : decode cX6_aheadOf 54 = .ok (.istore 5, 2) := by decide +kernel
theorem dX6_aheadOf_56 : decode cX6_aheadOf 56 = .ok (.iload_n 2, 1) := by decide +kernel
theorem dX6_aheadOf_57 : decode cX6_aheadOf 57 = .ok (.aload_n 0, 1) := by decide +kernel
theorem dX6_aheadOf_58 : decode cX6_aheadOf 58 = .ok (.iload_n 3, 1) := by decide +kernel
theorem dX6_aheadOf_59 : decode cX6_aheadOf 59 = .ok (.invokevirtual 61, 3) := by decide +kernel
theorem dX6_aheadOf_62 : decode cX6_aheadOf 62 = .ok (.ifCond .eq 12, 3) := by decide +kernel
theorem dX6_aheadOf_65 : decode cX6_aheadOf 65 = .ok (.iload 5, 2) := by decide +kernel
theorem dX6_aheadOf_67 : decode cX6_aheadOf 67 = .ok (.ifCond .eq 7, 3) := by decide +kernel
theorem dX6_aheadOf_70 : decode cX6_aheadOf 70 = .ok (.iconst 1, 1) := by decide +kernel
theorem dX6_aheadOf_71 : decode cX6_aheadOf 71 = .ok (.goto 4, 3) := by decide +kernel
theorem dX6_aheadOf_74 : decode cX6_aheadOf 74 = .ok (.iconst 0, 1) := by decide +kernel
theorem dX6_aheadOf_75 : decode cX6_aheadOf 75 = .ok (.iadd, 1) := by decide +kernel
theorem dX6_aheadOf_76 : decode cX6_aheadOf 76 = .ok (.istore_n 2, 1) := by decide +kernel
theorem dX6_aheadOf_77 : decode cX6_aheadOf 77 = .ok (.iinc 3 1, 3) := by decide +kernel
theorem dX6_aheadOf_80 : decode cX6_aheadOf 80 = .ok (.goto (-76), 3) := by decide +kernel
theorem dX6_aheadOf_83 : decode cX6_aheadOf 83 = .ok (.iload_n 2, 1) := by decide +kernel
theorem dX6_aheadOf_84 : decode cX6_aheadOf 84 = .ok (.ireturn, 1) := by decide +kernel
theorem dX6_freeAt_0 : decode cX6_freeAt 0 = .ok (.iconst 0, 1) := by decide +kernel
theorem dX6_freeAt_1 : decode cX6_freeAt 1 = .ok (.istore_n 2, 1) := by decide +kernel
theorem dX6_freeAt_2 : decode cX6_freeAt 2 = .ok (.iload_n 2, 1) := by decide +kernel
theorem dX6_freeAt_3 : decode cX6_freeAt 3 = .ok (.aload_n 0, 1) := by decide +kernel
theorem dX6_freeAt_4 : decode cX6_freeAt 4 = .ok (.getfield 7, 3) := by decide +kernel
theorem dX6_freeAt_7 : decode cX6_freeAt 7 = .ok (.iconst 2, 1) := by decide +kernel
theorem dX6_freeAt_8 : decode cX6_freeAt 8 = .ok (.iaload, 1) := by decide +kernel
theorem dX6_freeAt_9 : decode cX6_freeAt 9 = .ok (.if_icmp .ge 28, 3) := by decide +kernel
theorem dX6_freeAt_12 : decode cX6_freeAt 12 = .ok (.aload_n 0, 1) := by decide +kernel
theorem dX6_freeAt_13 : decode cX6_freeAt 13 = .ok (.iload_n 2, 1) := by decide +kernel
theorem dX6_freeAt_14 : decode cX6_freeAt 14 = .ok (.invokevirtual 61, 3) := by decide +kernel
theorem dX6_freeAt_17 : decode cX6_freeAt 17 = .ok (.ifCond .eq 14, 3) := by decide +kernel
theorem dX6_freeAt_20 : decode cX6_freeAt 20 = .ok (.aload_n 0, 1) := by decide +kernel
theorem dX6_freeAt_21 : decode cX6_freeAt 21 = .ok (.iload_n 2, 1) := by decide +kernel
theorem dX6_freeAt_22 : decode cX6_freeAt 22 = .ok (.invokevirtual 64, 3) := by decide +kernel
theorem dX6_freeAt_25 : decode cX6_freeAt 25 = .ok (.iload_n 1, 1) := by decide +kernel
theorem dX6_freeAt_26 : decode cX6_freeAt 26 = .ok (.if_icmp .ne 5, 3) := by decide +kernel
theorem dX6_freeAt_29 : decode cX6_freeAt 29 = .ok (.iload_n 2, 1) := by decide +kernel
theorem dX6_freeAt_30 : decode cX6_freeAt 30 = .ok (.ireturn, 1) := by decide +kernel
theorem dX6_freeAt_31 : decode cX6_freeAt 31 = .ok (.iinc 2 1, 3) := by decide +kernel
theorem dX6_freeAt_34 : decode cX6_freeAt 34 = .ok (.goto (-32), 3) := by decide +kernel
theorem dX6_freeAt_37 : decode cX6_freeAt 37 = .ok (.bipush (-5), 2) := by decide +kernel
theorem dX6_freeAt_39 : decode cX6_freeAt 39 = .ok (.ireturn, 1) := by decide +kernel
theorem dX6_onDutyAt_0 : decode cX6_onDutyAt 0 = .ok (.iconst 0, 1) := by decide +kernel
theorem dX6_onDutyAt_1 : decode cX6_onDutyAt 1 = .ok (.istore_n 2, 1) := by decide +kernel
theorem dX6_onDutyAt_2 : decode cX6_onDutyAt 2 = .ok (.iconst 0, 1) := by decide +kernel
theorem dX6_onDutyAt_3 : decode cX6_onDutyAt 3 = .ok (.istore_n 3, 1) := by decide +kernel
theorem dX6_onDutyAt_4 : decode cX6_onDutyAt 4 = .ok (.iload_n 3, 1) := by decide +kernel
theorem dX6_onDutyAt_5 : decode cX6_onDutyAt 5 = .ok (.aload_n 0, 1) := by decide +kernel
theorem dX6_onDutyAt_6 : decode cX6_onDutyAt 6 = .ok (.getfield 7, 3) := by decide +kernel
theorem dX6_onDutyAt_9 : decode cX6_onDutyAt 9 = .ok (.iconst 2, 1) := by decide +kernel
theorem dX6_onDutyAt_10 : decode cX6_onDutyAt 10 = .ok (.iaload, 1) := by decide +kernel
theorem dX6_onDutyAt_11 : decode cX6_onDutyAt 11 = .ok (.if_icmp .ge 27, 3) := by decide +kernel
theorem dX6_onDutyAt_14 : decode cX6_onDutyAt 14 = .ok (.iload_n 2, 1) := by decide +kernel
theorem dX6_onDutyAt_15 : decode cX6_onDutyAt 15 = .ok (.aload_n 0, 1) := by decide +kernel
theorem dX6_onDutyAt_16 : decode cX6_onDutyAt 16 = .ok (.iload_n 3, 1) := by decide +kernel
theorem dX6_onDutyAt_17 : decode cX6_onDutyAt 17 = .ok (.iconst 2, 1) := by decide +kernel
theorem dX6_onDutyAt_18 : decode cX6_onDutyAt 18 = .ok (.invokevirtual 58, 3) := by decide +kernel
theorem dX6_onDutyAt_21 : decode cX6_onDutyAt 21 = .ok (.iload_n 1, 1) := by decide +kernel
theorem dX6_onDutyAt_22 : decode cX6_onDutyAt 22 = .ok (.if_icmp .ne 7, 3) := by decide +kernel
theorem dX6_onDutyAt_25 : decode cX6_onDutyAt 25 = .ok (.iconst 1, 1) := by decide +kernel
theorem dX6_onDutyAt_26 : decode cX6_onDutyAt 26 = .ok (.goto 4, 3) := by decide +kernel
theorem dX6_onDutyAt_29 : decode cX6_onDutyAt 29 = .ok (.iconst 0, 1) := by decide +kernel
theorem dX6_onDutyAt_30 : decode cX6_onDutyAt 30 = .ok (.iadd, 1) := by decide +kernel
theorem dX6_onDutyAt_31 : decode cX6_onDutyAt 31 = .ok (.istore_n 2, 1) := by decide +kernel
theorem dX6_onDutyAt_32 : decode cX6_onDutyAt 32 = .ok (.iinc 3 1, 3) := by decide +kernel
theorem dX6_onDutyAt_35 : decode cX6_onDutyAt 35 = .ok (.goto (-31), 3) := by decide +kernel
theorem dX6_onDutyAt_38 : decode cX6_onDutyAt 38 = .ok (.iload_n 2, 1) := by decide +kernel
theorem dX6_onDutyAt_39 : decode cX6_onDutyAt 39 = .ok (.ireturn, 1) := by decide +kernel
theorem dX6_serveAt_0 : decode cX6_serveAt 0 = .ok (.iconst 0, 1) := by decide +kernel
theorem dX6_serveAt_1 : decode cX6_serveAt 1 = .ok (.istore_n 2, 1) := by decide +kernel
theorem dX6_serveAt_2 : decode cX6_serveAt 2 = .ok (.iconst 0, 1) := by decide +kernel
theorem dX6_serveAt_3 : decode cX6_serveAt 3 = .ok (.istore_n 3, 1) := by decide +kernel
theorem dX6_serveAt_4 : decode cX6_serveAt 4 = .ok (.iload_n 3, 1) := by decide +kernel
theorem dX6_serveAt_5 : decode cX6_serveAt 5 = .ok (.aload_n 0, 1) := by decide +kernel
theorem dX6_serveAt_6 : decode cX6_serveAt 6 = .ok (.getfield 7, 3) := by decide +kernel
theorem dX6_serveAt_9 : decode cX6_serveAt 9 = .ok (.iconst 2, 1) := by decide +kernel
theorem dX6_serveAt_10 : decode cX6_serveAt 10 = .ok (.iaload, 1) := by decide +kernel
theorem dX6_serveAt_11 : decode cX6_serveAt 11 = .ok (.if_icmp .ge 32, 3) := by decide +kernel
theorem dX6_serveAt_14 : decode cX6_serveAt 14 = .ok (.iload_n 2, 1) := by decide +kernel
theorem dX6_serveAt_15 : decode cX6_serveAt 15 = .ok (.aload_n 0, 1) := by decide +kernel
theorem dX6_serveAt_16 : decode cX6_serveAt 16 = .ok (.iload_n 3, 1) := by decide +kernel
theorem dX6_serveAt_17 : decode cX6_serveAt 17 = .ok (.iconst 2, 1) := by decide +kernel
theorem dX6_serveAt_18 : decode cX6_serveAt 18 = .ok (.invokevirtual 58, 3) := by decide +kernel
theorem dX6_serveAt_21 : decode cX6_serveAt 21 = .ok (.iload_n 1, 1) := by decide +kernel
theorem dX6_serveAt_22 : decode cX6_serveAt 22 = .ok (.if_icmp .ne 12, 3) := by decide +kernel
theorem dX6_serveAt_25 : decode cX6_serveAt 25 = .ok (.aload_n 0, 1) := by decide +kernel
theorem dX6_serveAt_26 : decode cX6_serveAt 26 = .ok (.iload_n 3, 1) := by decide +kernel
theorem dX6_serveAt_27 : decode cX6_serveAt 27 = .ok (.iconst 0, 1) := by decide +kernel
theorem dX6_serveAt_28 : decode cX6_serveAt 28 = .ok (.invokevirtual 58, 3) := by decide +kernel
theorem dX6_serveAt_31 : decode cX6_serveAt 31 = .ok (.goto 4, 3) := by decide +kernel
theorem dX6_serveAt_34 : decode cX6_serveAt 34 = .ok (.iconst 0, 1) := by decide +kernel
theorem dX6_serveAt_35 : decode cX6_serveAt 35 = .ok (.iadd, 1) := by decide +kernel
theorem dX6_serveAt_36 : decode cX6_serveAt 36 = .ok (.istore_n 2, 1) := by decide +kernel
theorem dX6_serveAt_37 : decode cX6_serveAt 37 = .ok (.iinc 3 1, 3) := by decide +kernel
theorem dX6_serveAt_40 : decode cX6_serveAt 40 = .ok (.goto (-36), 3) := by decide +kernel
theorem dX6_serveAt_43 : decode cX6_serveAt 43 = .ok (.iload_n 2, 1) := by decide +kernel
theorem dX6_serveAt_44 : decode cX6_serveAt 44 = .ok (.ireturn, 1) := by decide +kernel
theorem dX6_assign_0 : decode cX6_assign 0 = .ok (.aload_n 0, 1) := by decide +kernel
theorem dX6_assign_1 : decode cX6_assign 1 = .ok (.iload_n 1, 1) := by decide +kernel
theorem dX6_assign_2 : decode cX6_assign 2 = .ok (.invokevirtual 68, 3) := by decide +kernel
theorem dX6_assign_5 : decode cX6_assign 5 = .ok (.ifCond .eq 11, 3) := by decide +kernel
theorem dX6_assign_8 : decode cX6_assign 8 = .ok (.aload_n 0, 1) := by decide +kernel
theorem dX6_assign_9 : decode cX6_assign 9 = .ok (.iload_n 2, 1) := by decide +kernel
theorem dX6_assign_10 : decode cX6_assign 10 = .ok (.invokevirtual 50, 3) := by decide +kernel
theorem dX6_assign_13 : decode cX6_assign 13 = .ok (.ifCond .ne 5, 3) := by decide +kernel
theorem dX6_assign_16 : decode cX6_assign 16 = .ok (.iconst (-1), 1) := by decide +kernel
theorem dX6_assign_17 : decode cX6_assign 17 = .ok (.ireturn, 1) := by decide +kernel
theorem dX6_assign_18 : decode cX6_assign 18 = .ok (.aload_n 0, 1) := by decide +kernel
theorem dX6_assign_19 : decode cX6_assign 19 = .ok (.iload_n 1, 1) := by decide +kernel
theorem dX6_assign_20 : decode cX6_assign 20 = .ok (.invokevirtual 61, 3) := by decide +kernel
theorem dX6_assign_23 : decode cX6_assign 23 = .ok (.ifCond .ne 6, 3) := by decide +kernel
theorem dX6_assign_26 : decode cX6_assign 26 = .ok (.bipush (-4), 2) := by decide +kernel
theorem dX6_assign_28 : decode cX6_assign 28 = .ok (.ireturn, 1) := by decide +kernel
theorem dX6_assign_29 : decode cX6_assign 29 = .ok (.aload_n 0, 1) := by decide +kernel
theorem dX6_assign_30 : decode cX6_assign 30 = .ok (.invokevirtual 40, 3) := by decide +kernel
theorem dX6_assign_33 : decode cX6_assign 33 = .ok (.aload_n 0, 1) := by decide +kernel
theorem dX6_assign_34 : decode cX6_assign 34 = .ok (.iload_n 1, 1) := by decide +kernel
theorem dX6_assign_35 : decode cX6_assign 35 = .ok (.iconst 2, 1) := by decide +kernel
theorem dX6_assign_36 : decode cX6_assign 36 = .ok (.iload_n 2, 1) := by decide +kernel
theorem dX6_assign_37 : decode cX6_assign 37 = .ok (.invokevirtual 47, 3) := by decide +kernel
theorem dX6_assign_40 : decode cX6_assign 40 = .ok (.aload_n 0, 1) := by decide +kernel
theorem dX6_assign_41 : decode cX6_assign 41 = .ok (.iload_n 2, 1) := by decide +kernel
theorem dX6_assign_42 : decode cX6_assign 42 = .ok (.invokevirtual 71, 3) := by decide +kernel
theorem dX6_assign_45 : decode cX6_assign 45 = .ok (.ireturn, 1) := by decide +kernel
theorem dX6_leaves_0 : decode cX6_leaves 0 = .ok (.aload_n 0, 1) := by decide +kernel
theorem dX6_leaves_1 : decode cX6_leaves 1 = .ok (.iload_n 1, 1) := by decide +kernel
theorem dX6_leaves_2 : decode cX6_leaves 2 = .ok (.iconst 2, 1) := by decide +kernel
theorem dX6_leaves_3 : decode cX6_leaves 3 = .ok (.iconst (-1), 1) := by decide +kernel
theorem dX6_leaves_4 : decode cX6_leaves 4 = .ok (.invokevirtual 47, 3) := by decide +kernel
theorem dX6_leaves_7 : decode cX6_leaves 7 = .ok (.aload_n 0, 1) := by decide +kernel
theorem dX6_leaves_8 : decode cX6_leaves 8 = .ok (.iload_n 1, 1) := by decide +kernel
theorem dX6_leaves_9 : decode cX6_leaves 9 = .ok (.iconst 3, 1) := by decide +kernel
theorem dX6_leaves_10 : decode cX6_leaves 10 = .ok (.iconst 0, 1) := by decide +kernel
theorem dX6_leaves_11 : decode cX6_leaves 11 = .ok (.invokevirtual 47, 3) := by decide +kernel
theorem dX6_leaves_14 : decode cX6_leaves 14 = .ok (.aload_n 0, 1) := by decide +kernel
theorem dX6_leaves_15 : decode cX6_leaves 15 = .ok (.iload_n 1, 1) := by decide +kernel
theorem dX6_leaves_16 : decode cX6_leaves 16 = .ok (.iconst 5, 1) := by decide +kernel
theorem dX6_leaves_17 : decode cX6_leaves 17 = .ok (.iload_n 2, 1) := by decide +kernel
theorem dX6_leaves_18 : decode cX6_leaves 18 = .ok (.invokevirtual 47, 3) := by decide +kernel
theorem dX6_leaves_21 : decode cX6_leaves 21 = .ok (.return_, 1) := by decide +kernel
theorem dX6_relieve_0 : decode cX6_relieve 0 = .ok (.aload_n 0, 1) := by decide +kernel
theorem dX6_relieve_1 : decode cX6_relieve 1 = .ok (.iload_n 1, 1) := by decide +kernel
theorem dX6_relieve_2 : decode cX6_relieve 2 = .ok (.invokevirtual 68, 3) := by decide +kernel
theorem dX6_relieve_5 : decode cX6_relieve 5 = .ok (.ifCond .ne 5, 3) := by decide +kernel
theorem dX6_relieve_8 : decode cX6_relieve 8 = .ok (.iconst (-1), 1) := by decide +kernel
theorem dX6_relieve_9 : decode cX6_relieve 9 = .ok (.ireturn, 1) := by decide +kernel
theorem dX6_relieve_10 : decode cX6_relieve 10 = .ok (.aload_n 0, 1) := by decide +kernel
theorem dX6_relieve_11 : decode cX6_relieve 11 = .ok (.iload_n 1, 1) := by decide +kernel
theorem dX6_relieve_12 : decode cX6_relieve 12 = .ok (.iconst 2, 1) := by decide +kernel
theorem dX6_relieve_13 : decode cX6_relieve 13 = .ok (.invokevirtual 58, 3) := by decide +kernel
theorem dX6_relieve_16 : decode cX6_relieve 16 = .ok (.iconst (-1), 1) := by decide +kernel
theorem dX6_relieve_17 : decode cX6_relieve 17 = .ok (.if_icmp .ne 6, 3) := by decide +kernel
theorem dX6_relieve_20 : decode cX6_relieve 20 = .ok (.bipush (-5), 2) := by decide +kernel
theorem dX6_relieve_22 : decode cX6_relieve 22 = .ok (.ireturn, 1) := by decide +kernel
theorem dX6_relieve_23 : decode cX6_relieve 23 = .ok (.aload_n 0, 1) := by decide +kernel
theorem dX6_relieve_24 : decode cX6_relieve 24 = .ok (.invokevirtual 40, 3) := by decide +kernel
theorem dX6_relieve_27 : decode cX6_relieve 27 = .ok (.aload_n 0, 1) := by decide +kernel
theorem dX6_relieve_28 : decode cX6_relieve 28 = .ok (.iload_n 1, 1) := by decide +kernel
theorem dX6_relieve_29 : decode cX6_relieve 29 = .ok (.iconst 3, 1) := by decide +kernel
theorem dX6_relieve_30 : decode cX6_relieve 30 = .ok (.invokevirtual 58, 3) := by decide +kernel
theorem dX6_relieve_33 : decode cX6_relieve 33 = .ok (.istore_n 2, 1) := by decide +kernel
theorem dX6_relieve_34 : decode cX6_relieve 34 = .ok (.aload_n 0, 1) := by decide +kernel
theorem dX6_relieve_35 : decode cX6_relieve 35 = .ok (.iload_n 1, 1) := by decide +kernel
theorem dX6_relieve_36 : decode cX6_relieve 36 = .ok (.iconst 1, 1) := by decide +kernel
theorem dX6_relieve_37 : decode cX6_relieve 37 = .ok (.invokevirtual 74, 3) := by decide +kernel
theorem dX6_relieve_40 : decode cX6_relieve 40 = .ok (.iload_n 2, 1) := by decide +kernel
theorem dX6_relieve_41 : decode cX6_relieve 41 = .ok (.ireturn, 1) := by decide +kernel
theorem dX6_serves_0 : decode cX6_serves 0 = .ok (.aload_n 0, 1) := by decide +kernel
theorem dX6_serves_1 : decode cX6_serves 1 = .ok (.iload_n 1, 1) := by decide +kernel
theorem dX6_serves_2 : decode cX6_serves 2 = .ok (.iconst 0, 1) := by decide +kernel
theorem dX6_serves_3 : decode cX6_serves 3 = .ok (.invokevirtual 54, 3) := by decide +kernel
theorem dX6_serves_6 : decode cX6_serves 6 = .ok (.istore_n 2, 1) := by decide +kernel
theorem dX6_serves_7 : decode cX6_serves 7 = .ok (.aload_n 0, 1) := by decide +kernel
theorem dX6_serves_8 : decode cX6_serves 8 = .ok (.iload_n 1, 1) := by decide +kernel
theorem dX6_serves_9 : decode cX6_serves 9 = .ok (.invokevirtual 78, 3) := by decide +kernel
theorem dX6_serves_12 : decode cX6_serves 12 = .ok (.iload_n 2, 1) := by decide +kernel
theorem dX6_serves_13 : decode cX6_serves 13 = .ok (.if_icmp .ge 11, 3) := by decide +kernel
theorem dX6_serves_16 : decode cX6_serves 16 = .ok (.aload_n 0, 1) := by decide +kernel
theorem dX6_serves_17 : decode cX6_serves 17 = .ok (.iload_n 1, 1) := by decide +kernel
theorem dX6_serves_18 : decode cX6_serves 18 = .ok (.invokevirtual 78, 3) := by decide +kernel
theorem dX6_serves_21 : decode cX6_serves 21 = .ok (.goto 4, 3) := by decide +kernel
theorem dX6_serves_24 : decode cX6_serves 24 = .ok (.iload_n 2, 1) := by decide +kernel
theorem dX6_serves_25 : decode cX6_serves 25 = .ok (.istore_n 2, 1) := by decide +kernel
theorem dX6_serves_26 : decode cX6_serves 26 = .ok (.aload_n 0, 1) := by decide +kernel
theorem dX6_serves_27 : decode cX6_serves 27 = .ok (.iload_n 1, 1) := by decide +kernel
theorem dX6_serves_28 : decode cX6_serves 28 = .ok (.iconst 4, 1) := by decide +kernel
theorem dX6_serves_29 : decode cX6_serves 29 = .ok (.invokevirtual 54, 3) := by decide +kernel
theorem dX6_serves_32 : decode cX6_serves 32 = .ok (.iload_n 2, 1) := by decide +kernel
theorem dX6_serves_33 : decode cX6_serves 33 = .ok (.if_icmp .ge 12, 3) := by decide +kernel
theorem dX6_serves_36 : decode cX6_serves 36 = .ok (.aload_n 0, 1) := by decide +kernel
theorem dX6_serves_37 : decode cX6_serves 37 = .ok (.iload_n 1, 1) := by decide +kernel
theorem dX6_serves_38 : decode cX6_serves 38 = .ok (.iconst 4, 1) := by decide +kernel
theorem dX6_serves_39 : decode cX6_serves 39 = .ok (.invokevirtual 54, 3) := by decide +kernel
theorem dX6_serves_42 : decode cX6_serves 42 = .ok (.goto 4, 3) := by decide +kernel
theorem dX6_serves_45 : decode cX6_serves 45 = .ok (.iload_n 2, 1) := by decide +kernel
theorem dX6_serves_46 : decode cX6_serves 46 = .ok (.istore_n 2, 1) := by decide +kernel
theorem dX6_serves_47 : decode cX6_serves 47 = .ok (.aload_n 0, 1) := by decide +kernel
theorem dX6_serves_48 : decode cX6_serves 48 = .ok (.iload_n 1, 1) := by decide +kernel
theorem dX6_serves_49 : decode cX6_serves 49 = .ok (.iconst 0, 1) := by decide +kernel
theorem dX6_serves_50 : decode cX6_serves 50 = .ok (.iload_n 2, 1) := by decide +kernel
theorem dX6_serves_51 : decode cX6_serves 51 = .ok (.ineg, 1) := by decide +kernel
theorem dX6_serves_52 : decode cX6_serves 52 = .ok (.invokevirtual 43, 3) := by decide +kernel
theorem dX6_serves_55 : decode cX6_serves 55 = .ok (.aload_n 0, 1) := by decide +kernel
theorem dX6_serves_56 : decode cX6_serves 56 = .ok (.iload_n 1, 1) := by decide +kernel
theorem dX6_serves_57 : decode cX6_serves 57 = .ok (.iconst 4, 1) := by decide +kernel
theorem dX6_serves_58 : decode cX6_serves 58 = .ok (.iload_n 2, 1) := by decide +kernel
theorem dX6_serves_59 : decode cX6_serves 59 = .ok (.ineg, 1) := by decide +kernel
theorem dX6_serves_60 : decode cX6_serves 60 = .ok (.invokevirtual 43, 3) := by decide +kernel
theorem dX6_serves_63 : decode cX6_serves 63 = .ok (.aload_n 0, 1) := by decide +kernel
theorem dX6_serves_64 : decode cX6_serves 64 = .ok (.iload_n 1, 1) := by decide +kernel
theorem dX6_serves_65 : decode cX6_serves 65 = .ok (.iconst 2, 1) := by decide +kernel
theorem dX6_serves_66 : decode cX6_serves 66 = .ok (.iload_n 2, 1) := by decide +kernel
theorem dX6_serves_67 : decode cX6_serves 67 = .ok (.invokevirtual 43, 3) := by decide +kernel
theorem dX6_serves_70 : decode cX6_serves 70 = .ok (.aload_n 0, 1) := by decide +kernel
theorem dX6_serves_71 : decode cX6_serves 71 = .ok (.iload_n 1, 1) := by decide +kernel
theorem dX6_serves_72 : decode cX6_serves 72 = .ok (.iconst 5, 1) := by decide +kernel
theorem dX6_serves_73 : decode cX6_serves 73 = .ok (.iload_n 2, 1) := by decide +kernel
theorem dX6_serves_74 : decode cX6_serves 74 = .ok (.invokevirtual 43, 3) := by decide +kernel
theorem dX6_serves_77 : decode cX6_serves 77 = .ok (.aload_n 0, 1) := by decide +kernel
theorem dX6_serves_78 : decode cX6_serves 78 = .ok (.iload_n 1, 1) := by decide +kernel
theorem dX6_serves_79 : decode cX6_serves 79 = .ok (.bipush 9, 2) := by decide +kernel
theorem dX6_serves_81 : decode cX6_serves 81 = .ok (.iload_n 2, 1) := by decide +kernel
theorem dX6_serves_82 : decode cX6_serves 82 = .ok (.invokevirtual 43, 3) := by decide +kernel
theorem dX6_serves_85 : decode cX6_serves 85 = .ok (.aload_n 0, 1) := by decide +kernel
theorem dX6_serves_86 : decode cX6_serves 86 = .ok (.iload_n 1, 1) := by decide +kernel
theorem dX6_serves_87 : decode cX6_serves 87 = .ok (.iconst 3, 1) := by decide +kernel
theorem dX6_serves_88 : decode cX6_serves 88 = .ok (.aload_n 0, 1) := by decide +kernel
theorem dX6_serves_89 : decode cX6_serves 89 = .ok (.iload_n 1, 1) := by decide +kernel
theorem dX6_serves_90 : decode cX6_serves 90 = .ok (.iconst 0, 1) := by decide +kernel
theorem dX6_serves_91 : decode cX6_serves 91 = .ok (.invokevirtual 54, 3) := by decide +kernel
theorem dX6_serves_94 : decode cX6_serves 94 = .ok (.invokevirtual 43, 3) := by decide +kernel
theorem dX6_serves_97 : decode cX6_serves 97 = .ok (.aload_n 0, 1) := by decide +kernel
theorem dX6_serves_98 : decode cX6_serves 98 = .ok (.iload_n 1, 1) := by decide +kernel
theorem dX6_serves_99 : decode cX6_serves 99 = .ok (.iconst 1, 1) := by decide +kernel
theorem dX6_serves_100 : decode cX6_serves 100 = .ok (.aload_n 0, 1) := by decide +kernel
theorem dX6_serves_101 : decode cX6_serves 101 = .ok (.iload_n 1, 1) := by decide +kernel
theorem dX6_serves_102 : decode cX6_serves 102 = .ok (.iconst 0, 1) := by decide +kernel
theorem dX6_serves_103 : decode cX6_serves 103 = .ok (.invokevirtual 54, 3) := by decide +kernel
theorem dX6_serves_106 : decode cX6_serves 106 = .ok (.aload_n 0, 1) := by decide +kernel
theorem dX6_serves_107 : decode cX6_serves 107 = .ok (.iload_n 1, 1) := by decide +kernel
theorem dX6_serves_108 : decode cX6_serves 108 = .ok (.iconst 1, 1) := by decide +kernel
theorem dX6_serves_109 : decode cX6_serves 109 = .ok (.invokevirtual 54, 3) := by decide +kernel
theorem dX6_serves_112 : decode cX6_serves 112 = .ok (.if_icmp .le 19, 3) := by decide +kernel
theorem dX6_serves_115 : decode cX6_serves 115 = .ok (.aload_n 0, 1) := by decide +kernel
theorem dX6_serves_116 : decode cX6_serves 116 = .ok (.iload_n 1, 1) := by decide +kernel
theorem dX6_serves_117 : decode cX6_serves 117 = .ok (.iconst 0, 1) := by decide +kernel
theorem dX6_serves_118 : decode cX6_serves 118 = .ok (.invokevirtual 54, 3) := by decide +kernel
theorem dX6_serves_121 : decode cX6_serves 121 = .ok (.aload_n 0, 1) := by decide +kernel
theorem dX6_serves_122 : decode cX6_serves 122 = .ok (.iload_n 1, 1) := by decide +kernel
theorem dX6_serves_123 : decode cX6_serves 123 = .ok (.iconst 1, 1) := by decide +kernel
theorem dX6_serves_124 : decode cX6_serves 124 = .ok (.invokevirtual 54, 3) := by decide +kernel
theorem dX6_serves_127 : decode cX6_serves 127 = .ok (.isub, 1) := by decide +kernel
theorem dX6_serves_128 : decode cX6_serves 128 = .ok (.goto 4, 3) := by decide +kernel
theorem dX6_serves_131 : decode cX6_serves 131 = .ok (.iconst 0, 1) := by decide +kernel
theorem dX6_serves_132 : decode cX6_serves 132 = .ok (.invokevirtual 43, 3) := by decide +kernel
theorem dX6_serves_135 : decode cX6_serves 135 = .ok (.iload_n 2, 1) := by decide +kernel
theorem dX6_serves_136 : decode cX6_serves 136 = .ok (.ireturn, 1) := by decide +kernel
theorem dX6_takesTurns_0 : decode cX6_takesTurns 0 = .ok (.iconst 0, 1) := by decide +kernel
theorem dX6_takesTurns_1 : decode cX6_takesTurns 1 = .ok (.istore_n 1, 1) := by decide +kernel
theorem dX6_takesTurns_2 : decode cX6_takesTurns 2 = .ok (.iload_n 1, 1) := by decide +kernel
theorem dX6_takesTurns_3 : decode cX6_takesTurns 3 = .ok (.aload_n 0, 1) := by decide +kernel
theorem dX6_takesTurns_4 : decode cX6_takesTurns 4 = .ok (.getfield 7, 3) := by decide +kernel
theorem dX6_takesTurns_7 : decode cX6_takesTurns 7 = .ok (.iconst 2, 1) := by decide +kernel
theorem dX6_takesTurns_8 : decode cX6_takesTurns 8 = .ok (.iaload, 1) := by decide +kernel
theorem dX6_takesTurns_9 : decode cX6_takesTurns 9 = .ok (.if_icmp .ge 61, 3) := by decide +kernel
theorem dX6_takesTurns_12 : decode cX6_takesTurns 12 = .ok (.aload_n 0, 1) := by decide +kernel
theorem dX6_takesTurns_13 : decode cX6_takesTurns 13 = .ok (.iload_n 1, 1) := by decide +kernel
theorem dX6_takesTurns_14 : decode cX6_takesTurns 14 = .ok (.iconst 2, 1) := by decide +kernel
theorem dX6_takesTurns_15 : decode cX6_takesTurns 15 = .ok (.invokevirtual 58, 3) := by decide +kernel
theorem dX6_takesTurns_18 : decode cX6_takesTurns 18 = .ok (.istore_n 2, 1) := by decide +kernel
theorem dX6_takesTurns_19 : decode cX6_takesTurns 19 = .ok (.iload_n 2, 1) := by decide +kernel
theorem dX6_takesTurns_20 : decode cX6_takesTurns 20 = .ok (.iconst (-1), 1) := by decide +kernel
theorem dX6_takesTurns_21 : decode cX6_takesTurns 21 = .ok (.if_icmp .eq 43, 3) := by decide +kernel
theorem dX6_takesTurns_24 : decode cX6_takesTurns 24 = .ok (.aload_n 0, 1) := by decide +kernel
theorem dX6_takesTurns_25 : decode cX6_takesTurns 25 = .ok (.iload_n 1, 1) := by decide +kernel
theorem dX6_takesTurns_26 : decode cX6_takesTurns 26 = .ok (.iconst 3, 1) := by decide +kernel
theorem dX6_takesTurns_27 : decode cX6_takesTurns 27 = .ok (.invokevirtual 58, 3) := by decide +kernel
theorem dX6_takesTurns_30 : decode cX6_takesTurns 30 = .ok (.aload_n 0, 1) := by decide +kernel
theorem dX6_takesTurns_31 : decode cX6_takesTurns 31 = .ok (.iload_n 1, 1) := by decide +kernel
theorem dX6_takesTurns_32 : decode cX6_takesTurns 32 = .ok (.iconst 1, 1) := by decide +kernel
theorem dX6_takesTurns_33 : decode cX6_takesTurns 33 = .ok (.invokevirtual 58, 3) := by decide +kernel
theorem dX6_takesTurns_36 : decode cX6_takesTurns 36 = .ok (.if_icmp .ne 28, 3) := by decide +kernel
theorem dX6_takesTurns_39 : decode cX6_takesTurns 39 = .ok (.aload_n 0, 1) := by decide +kernel
theorem dX6_takesTurns_40 : decode cX6_takesTurns 40 = .ok (.iload_n 1, 1) := by decide +kernel
theorem dX6_takesTurns_41 : decode cX6_takesTurns 41 = .ok (.iconst 2, 1) := by decide +kernel
theorem dX6_takesTurns_42 : decode cX6_takesTurns 42 = .ok (.invokevirtual 74, 3) := by decide +kernel
theorem dX6_takesTurns_45 : decode cX6_takesTurns 45 = .ok (.aload_n 0, 1) := by decide +kernel
theorem dX6_takesTurns_46 : decode cX6_takesTurns 46 = .ok (.iconst 0, 1) := by decide +kernel
theorem dX6_takesTurns_47 : decode cX6_takesTurns 47 = .ok (.invokevirtual 81, 3) := by decide +kernel
theorem dX6_takesTurns_50 : decode cX6_takesTurns 50 = .ok (.istore_n 3, 1) := by decide +kernel
theorem dX6_takesTurns_51 : decode cX6_takesTurns 51 = .ok (.iload_n 3, 1) := by decide +kernel
theorem dX6_takesTurns_52 : decode cX6_takesTurns 52 = .ok (.bipush (-5), 2) := by decide +kernel
theorem dX6_takesTurns_54 : decode cX6_takesTurns 54 = .ok (.if_icmp .eq 10, 3) := by decide +kernel
theorem dX6_takesTurns_57 : decode cX6_takesTurns 57 = .ok (.aload_n 0, 1) := by decide +kernel
theorem dX6_takesTurns_58 : decode cX6_takesTurns 58 = .ok (.iload_n 3, 1) := by decide +kernel
theorem dX6_takesTurns_59 : decode cX6_takesTurns 59 = .ok (.iconst 2, 1) := by decide +kernel
theorem dX6_takesTurns_60 : decode cX6_takesTurns 60 = .ok (.iload_n 2, 1) := by decide +kernel
theorem dX6_takesTurns_61 : decode cX6_takesTurns 61 = .ok (.invokevirtual 47, 3) := by decide +kernel
theorem dX6_takesTurns_64 : decode cX6_takesTurns 64 = .ok (.iinc 1 1, 3) := by decide +kernel
theorem dX6_takesTurns_67 : decode cX6_takesTurns 67 = .ok (.goto (-65), 3) := by decide +kernel
theorem dX6_takesTurns_70 : decode cX6_takesTurns 70 = .ok (.return_, 1) := by decide +kernel
theorem dX6_hourPasses_0 : decode cX6_hourPasses 0 = .ok (.iconst 0, 1) := by decide +kernel
theorem dX6_hourPasses_1 : decode cX6_hourPasses 1 = .ok (.istore_n 1, 1) := by decide +kernel
theorem dX6_hourPasses_2 : decode cX6_hourPasses 2 = .ok (.iload_n 1, 1) := by decide +kernel
theorem dX6_hourPasses_3 : decode cX6_hourPasses 3 = .ok (.aload_n 0, 1) := by decide +kernel
theorem dX6_hourPasses_4 : decode cX6_hourPasses 4 = .ok (.getfield 7, 3) := by decide +kernel
theorem dX6_hourPasses_7 : decode cX6_hourPasses 7 = .ok (.iconst 1, 1) := by decide +kernel
theorem dX6_hourPasses_8 : decode cX6_hourPasses 8 = .ok (.iaload, 1) := by decide +kernel
theorem dX6_hourPasses_9 : decode cX6_hourPasses 9 = .ok (.if_icmp .ge 40, 3) := by decide +kernel
theorem dX6_hourPasses_12 : decode cX6_hourPasses 12 = .ok (.aload_n 0, 1) := by decide +kernel
theorem dX6_hourPasses_13 : decode cX6_hourPasses 13 = .ok (.getfield 7, 3) := by decide +kernel
theorem dX6_hourPasses_16 : decode cX6_hourPasses 16 = .ok (.iconst 0, 1) := by decide +kernel
theorem dX6_hourPasses_17 : decode cX6_hourPasses 17 = .ok (.iaload, 1) := by decide +kernel
theorem dX6_hourPasses_18 : decode cX6_hourPasses 18 = .ok (.bipush 15, 2) := by decide +kernel
theorem dX6_hourPasses_20 : decode cX6_hourPasses 20 = .ok (.if_icmp .ge 29, 3) := by decide +kernel
theorem dX6_hourPasses_23 : decode cX6_hourPasses 23 = .ok (.aload_n 0, 1) := by decide +kernel
theorem dX6_hourPasses_24 : decode cX6_hourPasses 24 = .ok (.iload_n 1, 1) := by decide +kernel
theorem dX6_hourPasses_25 : decode cX6_hourPasses 25 = .ok (.iconst 0, 1) := by decide +kernel
theorem dX6_hourPasses_26 : decode cX6_hourPasses 26 = .ok (.aload_n 0, 1) := by decide +kernel
theorem dX6_hourPasses_27 : decode cX6_hourPasses 27 = .ok (.iload_n 1, 1) := by decide +kernel
theorem dX6_hourPasses_28 : decode cX6_hourPasses 28 = .ok (.bipush 12, 2) := by decide +kernel
theorem dX6_hourPasses_30 : decode cX6_hourPasses 30 = .ok (.aload_n 0, 1) := by decide +kernel
theorem dX6_hourPasses_31 : decode cX6_hourPasses 31 = .ok (.getfield 7, 3) := by decide +kernel
theorem dX6_hourPasses_34 : decode cX6_hourPasses 34 = .ok (.iconst 0, 1) := by decide +kernel
theorem dX6_hourPasses_35 : decode cX6_hourPasses 35 = .ok (.iaload, 1) := by decide +kernel
theorem dX6_hourPasses_36 : decode cX6_hourPasses 36 = .ok (.iadd, 1) := by decide +kernel
theorem dX6_hourPasses_37 : decode cX6_hourPasses 37 = .ok (.invokevirtual 54, 3) := by decide +kernel
theorem dX6_hourPasses_40 : decode cX6_hourPasses 40 = .ok (.invokevirtual 43, 3) := by decide +kernel
theorem dX6_hourPasses_43 : decode cX6_hourPasses 43 = .ok (.iinc 1 1, 3) := by decide +kernel
theorem dX6_hourPasses_46 : decode cX6_hourPasses 46 = .ok (.goto (-44), 3) := by decide +kernel
theorem dX6_hourPasses_49 : decode cX6_hourPasses 49 = .ok (.aload_n 0, 1) := by decide +kernel
theorem dX6_hourPasses_50 : decode cX6_hourPasses 50 = .ok (.invokevirtual 84, 3) := by decide +kernel
theorem dX6_hourPasses_53 : decode cX6_hourPasses 53 = .ok (.iconst 0, 1) := by decide +kernel
theorem dX6_hourPasses_54 : decode cX6_hourPasses 54 = .ok (.istore_n 1, 1) := by decide +kernel
theorem dX6_hourPasses_55 : decode cX6_hourPasses 55 = .ok (.iconst 0, 1) := by decide +kernel
theorem dX6_hourPasses_56 : decode cX6_hourPasses 56 = .ok (.istore_n 2, 1) := by decide +kernel
theorem dX6_hourPasses_57 : decode cX6_hourPasses 57 = .ok (.iload_n 2, 1) := by decide +kernel
theorem dX6_hourPasses_58 : decode cX6_hourPasses 58 = .ok (.aload_n 0, 1) := by decide +kernel
theorem dX6_hourPasses_59 : decode cX6_hourPasses 59 = .ok (.getfield 7, 3) := by decide +kernel
theorem dX6_hourPasses_62 : decode cX6_hourPasses 62 = .ok (.iconst 1, 1) := by decide +kernel
theorem dX6_hourPasses_63 : decode cX6_hourPasses 63 = .ok (.iaload, 1) := by decide +kernel
theorem dX6_hourPasses_64 : decode cX6_hourPasses 64 = .ok (.if_icmp .ge 17, 3) := by decide +kernel
theorem dX6_hourPasses_67 : decode cX6_hourPasses 67 = .ok (.iload_n 1, 1) := by decide +kernel
theorem dX6_hourPasses_68 : decode cX6_hourPasses 68 = .ok (.aload_n 0, 1) := by decide +kernel
theorem dX6_hourPasses_69 : decode cX6_hourPasses 69 = .ok (.iload_n 2, 1) := by decide +kernel
theorem dX6_hourPasses_70 : decode cX6_hourPasses 70 = .ok (.invokevirtual 87, 3) := by decide +kernel
theorem dX6_hourPasses_73 : decode cX6_hourPasses 73 = .ok (.iadd, 1) := by decide +kernel
theorem dX6_hourPasses_74 : decode cX6_hourPasses 74 = .ok (.istore_n 1, 1) := by decide +kernel
theorem dX6_hourPasses_75 : decode cX6_hourPasses 75 = .ok (.iinc 2 1, 3) := by decide +kernel
theorem dX6_hourPasses_78 : decode cX6_hourPasses 78 = .ok (.goto (-21), 3) := by decide +kernel
theorem dX6_hourPasses_81 : decode cX6_hourPasses 81 = .ok (.iconst 0, 1) := by decide +kernel
theorem dX6_hourPasses_82 : decode cX6_hourPasses 82 = .ok (.istore_n 2, 1) := by decide +kernel
theorem dX6_hourPasses_83 : decode cX6_hourPasses 83 = .ok (.iload_n 2, 1) := by decide +kernel
theorem dX6_hourPasses_84 : decode cX6_hourPasses 84 = .ok (.aload_n 0, 1) := by decide +kernel
theorem dX6_hourPasses_85 : decode cX6_hourPasses 85 = .ok (.getfield 7, 3) := by decide +kernel
theorem dX6_hourPasses_88 : decode cX6_hourPasses 88 = .ok (.iconst 2, 1) := by decide +kernel
theorem dX6_hourPasses_89 : decode cX6_hourPasses 89 = .ok (.iaload, 1) := by decide +kernel
theorem dX6_hourPasses_90 : decode cX6_hourPasses 90 = .ok (.if_icmp .ge 94, 3) := by decide +kernel
theorem dX6_hourPasses_93 : decode cX6_hourPasses 93 = .ok (.aload_n 0, 1) := by decide +kernel
theorem dX6_hourPasses_94 : decode cX6_hourPasses 94 = .ok (.iload_n 2, 1) := by decide +kernel
theorem dX6_hourPasses_95 : decode cX6_hourPasses 95 = .ok (.iconst 2, 1) := by decide +kernel
theorem dX6_hourPasses_96 : decode cX6_hourPasses 96 = .ok (.invokevirtual 58, 3) := by decide +kernel
theorem dX6_hourPasses_99 : decode cX6_hourPasses 99 = .ok (.iconst (-1), 1) := by decide +kernel
theorem dX6_hourPasses_100 : decode cX6_hourPasses 100 = .ok (.if_icmp .eq 7, 3) := by decide +kernel
theorem dX6_hourPasses_103 : decode cX6_hourPasses 103 = .ok (.iconst 1, 1) := by decide +kernel
theorem dX6_hourPasses_104 : decode cX6_hourPasses 104 = .ok (.goto 4, 3) := by decide +kernel
theorem dX6_hourPasses_107 : decode cX6_hourPasses 107 = .ok (.iconst 0, 1) := by decide +kernel
theorem dX6_hourPasses_108 : decode cX6_hourPasses 108 = .ok (.istore_n 3, 1) := by decide +kernel
theorem dX6_hourPasses_109 : decode cX6_hourPasses 109 = .ok (.aload_n 0, 1) := by decide +kernel
theorem dX6_hourPasses_110 : decode cX6_hourPasses 110 = .ok (.iload_n 2, 1) := by decide +kernel
theorem dX6_hourPasses_111 : decode cX6_hourPasses 111 = .ok (.iconst 5, 1) := by decide +kernel
theorem dX6_hourPasses_112 : decode cX6_hourPasses 112 = .ok (.invokevirtual 58, 3) := by decide +kernel
theorem dX6_hourPasses_115 : decode cX6_hourPasses 115 = .ok (.istore 4, 2) := by decide +kernel
theorem dX6_hourPasses_117 : decode cX6_hourPasses 117 = .ok (.aload_n 0, 1) := by decide +kernel
theorem dX6_hourPasses_118 : decode cX6_hourPasses 118 = .ok (.iload_n 2, 1) := by decide +kernel
theorem dX6_hourPasses_119 : decode cX6_hourPasses 119 = .ok (.iconst 4, 1) := by decide +kernel
theorem dX6_hourPasses_120 : decode cX6_hourPasses 120 = .ok (.aload_n 0, 1) := by decide +kernel
theorem dX6_hourPasses_121 : decode cX6_hourPasses 121 = .ok (.iload_n 2, 1) := by decide +kernel
theorem dX6_hourPasses_122 : decode cX6_hourPasses 122 = .ok (.iconst 4, 1) := by decide +kernel
theorem dX6_hourPasses_123 : decode cX6_hourPasses 123 = .ok (.invokevirtual 58, 3) := by decide +kernel
theorem dX6_hourPasses_126 : decode cX6_hourPasses 126 = .ok (.iload_n 3, 1) := by decide +kernel
theorem dX6_hourPasses_127 : decode cX6_hourPasses 127 = .ok (.ifCond .eq 7, 3) := by decide +kernel
theorem dX6_hourPasses_130 : decode cX6_hourPasses 130 = .ok (.iconst 1, 1) := by decide +kernel
theorem dX6_hourPasses_131 : decode cX6_hourPasses 131 = .ok (.goto 4, 3) := by decide +kernel
theorem dX6_hourPasses_134 : decode cX6_hourPasses 134 = .ok (.iconst 0, 1) := by decide +kernel
theorem dX6_hourPasses_135 : decode cX6_hourPasses 135 = .ok (.iadd, 1) := by decide +kernel
theorem dX6_hourPasses_136 : decode cX6_hourPasses 136 = .ok (.invokevirtual 47, 3) := by decide +kernel
theorem dX6_hourPasses_139 : decode cX6_hourPasses 139 = .ok (.aload_n 0, 1) := by decide +kernel
theorem dX6_hourPasses_140 : decode cX6_hourPasses 140 = .ok (.iload_n 2, 1) := by decide +kernel
theorem dX6_hourPasses_141 : decode cX6_hourPasses 141 = .ok (.iconst 3, 1) := by decide +kernel
theorem dX6_hourPasses_142 : decode cX6_hourPasses 142 = .ok (.iload_n 3, 1) := by decide +kernel
theorem dX6_hourPasses_143 : decode cX6_hourPasses 143 = .ok (.ifCond .eq 14, 3) := by decide +kernel
theorem dX6_hourPasses_146 : decode cX6_hourPasses 146 = .ok (.aload_n 0, 1) := by decide +kernel
theorem dX6_hourPasses_147 : decode cX6_hourPasses 147 = .ok (.iload_n 2, 1) := by decide +kernel
theorem dX6_hourPasses_148 : decode cX6_hourPasses 148 = .ok (.iconst 3, 1) := by decide +kernel
theorem dX6_hourPasses_149 : decode cX6_hourPasses 149 = .ok (.invokevirtual 58, 3) := by decide +kernel
theorem dX6_hourPasses_152 : decode cX6_hourPasses 152 = .ok (.iconst 1, 1) := by decide +kernel
theorem dX6_hourPasses_153 : decode cX6_hourPasses 153 = .ok (.iadd, 1) := by decide +kernel
theorem dX6_hourPasses_154 : decode cX6_hourPasses 154 = .ok (.goto 4, 3) := by decide +kernel
theorem dX6_hourPasses_157 : decode cX6_hourPasses 157 = .ok (.iconst 0, 1) := by decide +kernel
theorem dX6_hourPasses_158 : decode cX6_hourPasses 158 = .ok (.invokevirtual 47, 3) := by decide +kernel
theorem dX6_hourPasses_161 : decode cX6_hourPasses 161 = .ok (.aload_n 0, 1) := by decide +kernel
theorem dX6_hourPasses_162 : decode cX6_hourPasses 162 = .ok (.iload_n 2, 1) := by decide +kernel
theorem dX6_hourPasses_163 : decode cX6_hourPasses 163 = .ok (.iconst 5, 1) := by decide +kernel
theorem dX6_hourPasses_164 : decode cX6_hourPasses 164 = .ok (.iload 4, 2) := by decide +kernel
theorem dX6_hourPasses_166 : decode cX6_hourPasses 166 = .ok (.iconst 2, 1) := by decide +kernel
theorem dX6_hourPasses_167 : decode cX6_hourPasses 167 = .ok (.if_icmp .ne 7, 3) := by decide +kernel
theorem dX6_hourPasses_170 : decode cX6_hourPasses 170 = .ok (.iconst 1, 1) := by decide +kernel
theorem dX6_hourPasses_171 : decode cX6_hourPasses 171 = .ok (.goto 4, 3) := by decide +kernel
theorem dX6_hourPasses_174 : decode cX6_hourPasses 174 = .ok (.iconst 0, 1) := by decide +kernel
theorem dX6_hourPasses_175 : decode cX6_hourPasses 175 = .ok (.invokevirtual 47, 3) := by decide +kernel
theorem dX6_hourPasses_178 : decode cX6_hourPasses 178 = .ok (.iinc 2 1, 3) := by decide +kernel
theorem dX6_hourPasses_181 : decode cX6_hourPasses 181 = .ok (.goto (-98), 3) := by decide +kernel
theorem dX6_hourPasses_184 : decode cX6_hourPasses 184 = .ok (.aload_n 0, 1) := by decide +kernel
theorem dX6_hourPasses_185 : decode cX6_hourPasses 185 = .ok (.getfield 7, 3) := by decide +kernel
theorem dX6_hourPasses_188 : decode cX6_hourPasses 188 = .ok (.iconst 0, 1) := by decide +kernel
theorem dX6_hourPasses_189 : decode cX6_hourPasses 189 = .ok (.dup2, 1) := by decide +kernel
theorem dX6_hourPasses_190 : decode cX6_hourPasses 190 = .ok (.iaload, 1) := by decide +kernel
theorem dX6_hourPasses_191 : decode cX6_hourPasses 191 = .ok (.iconst 1, 1) := by decide +kernel
theorem dX6_hourPasses_192 : decode cX6_hourPasses 192 = .ok (.iadd, 1) := by decide +kernel
theorem dX6_hourPasses_193 : decode cX6_hourPasses 193 = .ok (.iastore, 1) := by decide +kernel
theorem dX6_hourPasses_194 : decode cX6_hourPasses 194 = .ok (.iload_n 1, 1) := by decide +kernel
theorem dX6_hourPasses_195 : decode cX6_hourPasses 195 = .ok (.ireturn, 1) := by decide +kernel
theorem dX6_hoursPass_0 : decode cX6_hoursPass 0 = .ok (.iconst 0, 1) := by decide +kernel
theorem dX6_hoursPass_1 : decode cX6_hoursPass 1 = .ok (.istore_n 2, 1) := by decide +kernel
theorem dX6_hoursPass_2 : decode cX6_hoursPass 2 = .ok (.iconst 0, 1) := by decide +kernel
theorem dX6_hoursPass_3 : decode cX6_hoursPass 3 = .ok (.istore_n 3, 1) := by decide +kernel
theorem dX6_hoursPass_4 : decode cX6_hoursPass 4 = .ok (.iload_n 3, 1) := by decide +kernel
theorem dX6_hoursPass_5 : decode cX6_hoursPass 5 = .ok (.iload_n 1, 1) := by decide +kernel
theorem dX6_hoursPass_6 : decode cX6_hoursPass 6 = .ok (.if_icmp .ge 16, 3) := by decide +kernel
theorem dX6_hoursPass_9 : decode cX6_hoursPass 9 = .ok (.iload_n 2, 1) := by decide +kernel
theorem dX6_hoursPass_10 : decode cX6_hoursPass 10 = .ok (.aload_n 0, 1) := by decide +kernel
theorem dX6_hoursPass_11 : decode cX6_hoursPass 11 = .ok (.invokevirtual 90, 3) := by decide +kernel
theorem dX6_hoursPass_14 : decode cX6_hoursPass 14 = .ok (.iadd, 1) := by decide +kernel
theorem dX6_hoursPass_15 : decode cX6_hoursPass 15 = .ok (.istore_n 2, 1) := by decide +kernel
theorem dX6_hoursPass_16 : decode cX6_hoursPass 16 = .ok (.iinc 3 1, 3) := by decide +kernel
theorem dX6_hoursPass_19 : decode cX6_hoursPass 19 = .ok (.goto (-15), 3) := by decide +kernel
theorem dX6_hoursPass_22 : decode cX6_hoursPass 22 = .ok (.iload_n 2, 1) := by decide +kernel
theorem dX6_hoursPass_23 : decode cX6_hoursPass 23 = .ok (.ireturn, 1) := by decide +kernel
theorem dX6_pass_0 : decode cX6_pass 0 = .ok (.iload_n 1, 1) := by decide +kernel
theorem dX6_pass_1 : decode cX6_pass 1 = .ok (.iconst 1, 1) := by decide +kernel
theorem dX6_pass_2 : decode cX6_pass 2 = .ok (.bipush 18, 2) := by decide +kernel
theorem dX6_pass_4 : decode cX6_pass 4 = .ok (.invokestatic 36, 3) := by decide +kernel
theorem dX6_pass_7 : decode cX6_pass 7 = .ok (.ifCond .ne 6, 3) := by decide +kernel
theorem dX6_pass_10 : decode cX6_pass 10 = .ok (.bipush (-2), 2) := by decide +kernel
theorem dX6_pass_12 : decode cX6_pass 12 = .ok (.ireturn, 1) := by decide +kernel
theorem dX6_pass_13 : decode cX6_pass 13 = .ok (.aload_n 0, 1) := by decide +kernel
theorem dX6_pass_14 : decode cX6_pass 14 = .ok (.getfield 7, 3) := by decide +kernel
theorem dX6_pass_17 : decode cX6_pass 17 = .ok (.iconst 0, 1) := by decide +kernel
theorem dX6_pass_18 : decode cX6_pass 18 = .ok (.iaload, 1) := by decide +kernel
theorem dX6_pass_19 : decode cX6_pass 19 = .ok (.iload_n 1, 1) := by decide +kernel
theorem dX6_pass_20 : decode cX6_pass 20 = .ok (.iadd, 1) := by decide +kernel
theorem dX6_pass_21 : decode cX6_pass 21 = .ok (.bipush 18, 2) := by decide +kernel
theorem dX6_pass_23 : decode cX6_pass 23 = .ok (.if_icmp .le 6, 3) := by decide +kernel
theorem dX6_pass_26 : decode cX6_pass 26 = .ok (.bipush (-4), 2) := by decide +kernel
theorem dX6_pass_28 : decode cX6_pass 28 = .ok (.ireturn, 1) := by decide +kernel
theorem dX6_pass_29 : decode cX6_pass 29 = .ok (.aload_n 0, 1) := by decide +kernel
theorem dX6_pass_30 : decode cX6_pass 30 = .ok (.invokevirtual 40, 3) := by decide +kernel
theorem dX6_pass_33 : decode cX6_pass 33 = .ok (.aload_n 0, 1) := by decide +kernel
theorem dX6_pass_34 : decode cX6_pass 34 = .ok (.iload_n 1, 1) := by decide +kernel
theorem dX6_pass_35 : decode cX6_pass 35 = .ok (.invokevirtual 94, 3) := by decide +kernel
theorem dX6_pass_38 : decode cX6_pass 38 = .ok (.ireturn, 1) := by decide +kernel
theorem dX6_supply_0 : decode cX6_supply 0 = .ok (.aload_n 0, 1) := by decide +kernel
theorem dX6_supply_1 : decode cX6_supply 1 = .ok (.iload_n 1, 1) := by decide +kernel
theorem dX6_supply_2 : decode cX6_supply 2 = .ok (.invokevirtual 50, 3) := by decide +kernel
theorem dX6_supply_5 : decode cX6_supply 5 = .ok (.ifCond .ne 5, 3) := by decide +kernel
theorem dX6_supply_8 : decode cX6_supply 8 = .ok (.iconst (-1), 1) := by decide +kernel
theorem dX6_supply_9 : decode cX6_supply 9 = .ok (.ireturn, 1) := by decide +kernel
theorem dX6_supply_10 : decode cX6_supply 10 = .ok (.iload_n 2, 1) := by decide +kernel
theorem dX6_supply_11 : decode cX6_supply 11 = .ok (.iconst 1, 1) := by decide +kernel
theorem dX6_supply_12 : decode cX6_supply 12 = .ok (.sipush 9999, 3) := by decide +kernel
theorem dX6_supply_15 : decode cX6_supply 15 = .ok (.invokestatic 36, 3) := by decide +kernel
theorem dX6_supply_18 : decode cX6_supply 18 = .ok (.ifCond .ne 6, 3) := by decide +kernel
theorem dX6_supply_21 : decode cX6_supply 21 = .ok (.bipush (-2), 2) := by decide +kernel
theorem dX6_supply_23 : decode cX6_supply 23 = .ok (.ireturn, 1) := by decide +kernel
theorem dX6_supply_24 : decode cX6_supply 24 = .ok (.aload_n 0, 1) := by decide +kernel
theorem dX6_supply_25 : decode cX6_supply 25 = .ok (.iload_n 1, 1) := by decide +kernel
theorem dX6_supply_26 : decode cX6_supply 26 = .ok (.iconst 4, 1) := by decide +kernel
theorem dX6_supply_27 : decode cX6_supply 27 = .ok (.invokevirtual 54, 3) := by decide +kernel
theorem dX6_supply_30 : decode cX6_supply 30 = .ok (.iload_n 2, 1) := by decide +kernel
theorem dX6_supply_31 : decode cX6_supply 31 = .ok (.iadd, 1) := by decide +kernel
theorem dX6_supply_32 : decode cX6_supply 32 = .ok (.sipush 9999, 3) := by decide +kernel
theorem dX6_supply_35 : decode cX6_supply 35 = .ok (.if_icmp .le 6, 3) := by decide +kernel
theorem dX6_supply_38 : decode cX6_supply 38 = .ok (.bipush (-3), 2) := by decide +kernel
theorem dX6_supply_40 : decode cX6_supply 40 = .ok (.ireturn, 1) := by decide +kernel
theorem dX6_supply_41 : decode cX6_supply 41 = .ok (.aload_n 0, 1) := by decide +kernel
theorem dX6_supply_42 : decode cX6_supply 42 = .ok (.invokevirtual 40, 3) := by decide +kernel
theorem dX6_supply_45 : decode cX6_supply 45 = .ok (.aload_n 0, 1) := by decide +kernel
theorem dX6_supply_46 : decode cX6_supply 46 = .ok (.iload_n 1, 1) := by decide +kernel
theorem dX6_supply_47 : decode cX6_supply 47 = .ok (.iconst 4, 1) := by decide +kernel
theorem dX6_supply_48 : decode cX6_supply 48 = .ok (.iload_n 2, 1) := by decide +kernel
theorem dX6_supply_49 : decode cX6_supply 49 = .ok (.invokevirtual 43, 3) := by decide +kernel
theorem dX6_supply_52 : decode cX6_supply 52 = .ok (.aload_n 0, 1) := by decide +kernel
theorem dX6_supply_53 : decode cX6_supply 53 = .ok (.iload_n 1, 1) := by decide +kernel
theorem dX6_supply_54 : decode cX6_supply 54 = .ok (.iconst 4, 1) := by decide +kernel
theorem dX6_supply_55 : decode cX6_supply 55 = .ok (.invokevirtual 54, 3) := by decide +kernel
theorem dX6_supply_58 : decode cX6_supply 58 = .ok (.ireturn, 1) := by decide +kernel
theorem dX6_movePapers_0 : decode cX6_movePapers 0 = .ok (.aload_n 0, 1) := by decide +kernel
theorem dX6_movePapers_1 : decode cX6_movePapers 1 = .ok (.iload_n 1, 1) := by decide +kernel
theorem dX6_movePapers_2 : decode cX6_movePapers 2 = .ok (.invokevirtual 50, 3) := by decide +kernel
theorem dX6_movePapers_5 : decode cX6_movePapers 5 = .ok (.ifCond .eq 11, 3) := by decide +kernel
theorem dX6_movePapers_8 : decode cX6_movePapers 8 = .ok (.aload_n 0, 1) := by decide +kernel
theorem dX6_movePapers_9 : decode cX6_movePapers 9 = .ok (.iload_n 2, 1) := by decide +kernel
theorem dX6_movePapers_10 : decode cX6_movePapers 10 = .ok (.invokevirtual 50, 3) := by decide +kernel
theorem dX6_movePapers_13 : decode cX6_movePapers 13 = .ok (.ifCond .ne 5, 3) := by decide +kernel
theorem dX6_movePapers_16 : decode cX6_movePapers 16 = .ok (.iconst (-1), 1) := by decide +kernel
theorem dX6_movePapers_17 : decode cX6_movePapers 17 = .ok (.ireturn, 1) := by decide +kernel
theorem dX6_movePapers_18 : decode cX6_movePapers 18 = .ok (.iload_n 3, 1) := by decide +kernel
theorem dX6_movePapers_19 : decode cX6_movePapers 19 = .ok (.iconst 1, 1) := by decide +kernel
theorem dX6_movePapers_20 : decode cX6_movePapers 20 = .ok (.sipush 9999, 3) := by decide +kernel
theorem dX6_movePapers_23 : decode cX6_movePapers 23 = .ok (.invokestatic 36, 3) := by decide +kernel
theorem dX6_movePapers_26 : decode cX6_movePapers 26 = .ok (.ifCond .eq 8, 3) := by decide +kernel
theorem dX6_movePapers_29 : decode cX6_movePapers 29 = .ok (.iload_n 1, 1) := by decide +kernel
theorem dX6_movePapers_30 : decode cX6_movePapers 30 = .ok (.iload_n 2, 1) := by decide +kernel
theorem dX6_movePapers_31 : decode cX6_movePapers 31 = .ok (.if_icmp .ne 6, 3) := by decide +kernel
theorem dX6_movePapers_34 : decode cX6_movePapers 34 = .ok (.bipush (-2), 2) := by decide +kernel
theorem dX6_movePapers_36 : decode cX6_movePapers 36 = .ok (.ireturn, 1) := by decide +kernel
theorem dX6_movePapers_37 : decode cX6_movePapers 37 = .ok (.aload_n 0, 1) := by decide +kernel
theorem dX6_movePapers_38 : decode cX6_movePapers 38 = .ok (.iload_n 1, 1) := by decide +kernel
theorem dX6_movePapers_39 : decode cX6_movePapers 39 = .ok (.iconst 4, 1) := by decide +kernel
theorem dX6_movePapers_40 : decode cX6_movePapers 40 = .ok (.invokevirtual 54, 3) := by decide +kernel
theorem dX6_movePapers_43 : decode cX6_movePapers 43 = .ok (.iload_n 3, 1) := by decide +kernel
theorem dX6_movePapers_44 : decode cX6_movePapers 44 = .ok (.if_icmp .ge 6, 3) := by decide +kernel
theorem dX6_movePapers_47 : decode cX6_movePapers 47 = .ok (.bipush (-4), 2) := by decide +kernel
theorem dX6_movePapers_49 : decode cX6_movePapers 49 = .ok (.ireturn, 1) := by decide +kernel
theorem dX6_movePapers_50 : decode cX6_movePapers 50 = .ok (.aload_n 0, 1) := by decide +kernel
theorem dX6_movePapers_51 : decode cX6_movePapers 51 = .ok (.iload_n 2, 1) := by decide +kernel
theorem dX6_movePapers_52 : decode cX6_movePapers 52 = .ok (.iconst 4, 1) := by decide +kernel
theorem dX6_movePapers_53 : decode cX6_movePapers 53 = .ok (.invokevirtual 54, 3) := by decide +kernel
theorem dX6_movePapers_56 : decode cX6_movePapers 56 = .ok (.iload_n 3, 1) := by decide +kernel
theorem dX6_movePapers_57 : decode cX6_movePapers 57 = .ok (.iadd, 1) := by decide +kernel
theorem dX6_movePapers_58 : decode cX6_movePapers 58 = .ok (.sipush 9999, 3) := by decide +kernel
theorem dX6_movePapers_61 : decode cX6_movePapers 61 = .ok (.if_icmp .le 6, 3) := by decide +kernel
theorem dX6_movePapers_64 : decode cX6_movePapers 64 = .ok (.bipush (-3), 2) := by decide +kernel
theorem dX6_movePapers_66 : decode cX6_movePapers 66 = .ok (.ireturn, 1) := by decide +kernel
theorem dX6_movePapers_67 : decode cX6_movePapers 67 = .ok (.aload_n 0, 1) := by decide +kernel
theorem dX6_movePapers_68 : decode cX6_movePapers 68 = .ok (.invokevirtual 40, 3) := by decide +kernel
theorem dX6_movePapers_71 : decode cX6_movePapers 71 = .ok (.aload_n 0, 1) := by decide +kernel
theorem dX6_movePapers_72 : decode cX6_movePapers 72 = .ok (.iload_n 1, 1) := by decide +kernel
theorem dX6_movePapers_73 : decode cX6_movePapers 73 = .ok (.iconst 4, 1) := by decide +kernel
theorem dX6_movePapers_74 : decode cX6_movePapers 74 = .ok (.iload_n 3, 1) := by decide +kernel
theorem dX6_movePapers_75 : decode cX6_movePapers 75 = .ok (.ineg, 1) := by decide +kernel
theorem dX6_movePapers_76 : decode cX6_movePapers 76 = .ok (.invokevirtual 43, 3) := by decide +kernel
theorem dX6_movePapers_79 : decode cX6_movePapers 79 = .ok (.aload_n 0, 1) := by decide +kernel
theorem dX6_movePapers_80 : decode cX6_movePapers 80 = .ok (.iload_n 2, 1) := by decide +kernel
theorem dX6_movePapers_81 : decode cX6_movePapers 81 = .ok (.iconst 4, 1) := by decide +kernel
theorem dX6_movePapers_82 : decode cX6_movePapers 82 = .ok (.iload_n 3, 1) := by decide +kernel
theorem dX6_movePapers_83 : decode cX6_movePapers 83 = .ok (.invokevirtual 43, 3) := by decide +kernel
theorem dX6_movePapers_86 : decode cX6_movePapers 86 = .ok (.aload_n 0, 1) := by decide +kernel
theorem dX6_movePapers_87 : decode cX6_movePapers 87 = .ok (.iload_n 1, 1) := by decide +kernel
theorem dX6_movePapers_88 : decode cX6_movePapers 88 = .ok (.iconst 4, 1) := by decide +kernel
theorem dX6_movePapers_89 : decode cX6_movePapers 89 = .ok (.invokevirtual 54, 3) := by decide +kernel
theorem dX6_movePapers_92 : decode cX6_movePapers 92 = .ok (.ireturn, 1) := by decide +kernel
theorem dX6_spoil_0 : decode cX6_spoil 0 = .ok (.aload_n 0, 1) := by decide +kernel
theorem dX6_spoil_1 : decode cX6_spoil 1 = .ok (.iload_n 1, 1) := by decide +kernel
theorem dX6_spoil_2 : decode cX6_spoil 2 = .ok (.invokevirtual 50, 3) := by decide +kernel
theorem dX6_spoil_5 : decode cX6_spoil 5 = .ok (.ifCond .ne 5, 3) := by decide +kernel
theorem dX6_spoil_8 : decode cX6_spoil 8 = .ok (.iconst (-1), 1) := by decide +kernel
theorem dX6_spoil_9 : decode cX6_spoil 9 = .ok (.ireturn, 1) := by decide +kernel
theorem dX6_spoil_10 : decode cX6_spoil 10 = .ok (.iload_n 2, 1) := by decide +kernel
theorem dX6_spoil_11 : decode cX6_spoil 11 = .ok (.iconst 1, 1) := by decide +kernel
theorem dX6_spoil_12 : decode cX6_spoil 12 = .ok (.sipush 9999, 3) := by decide +kernel
theorem dX6_spoil_15 : decode cX6_spoil 15 = .ok (.invokestatic 36, 3) := by decide +kernel
theorem dX6_spoil_18 : decode cX6_spoil 18 = .ok (.ifCond .ne 6, 3) := by decide +kernel
theorem dX6_spoil_21 : decode cX6_spoil 21 = .ok (.bipush (-2), 2) := by decide +kernel
theorem dX6_spoil_23 : decode cX6_spoil 23 = .ok (.ireturn, 1) := by decide +kernel
theorem dX6_spoil_24 : decode cX6_spoil 24 = .ok (.aload_n 0, 1) := by decide +kernel
theorem dX6_spoil_25 : decode cX6_spoil 25 = .ok (.iload_n 1, 1) := by decide +kernel
theorem dX6_spoil_26 : decode cX6_spoil 26 = .ok (.bipush 9, 2) := by decide +kernel
theorem dX6_spoil_28 : decode cX6_spoil 28 = .ok (.invokevirtual 54, 3) := by decide +kernel
theorem dX6_spoil_31 : decode cX6_spoil 31 = .ok (.iload_n 2, 1) := by decide +kernel
theorem dX6_spoil_32 : decode cX6_spoil 32 = .ok (.if_icmp .lt 13, 3) := by decide +kernel
theorem dX6_spoil_35 : decode cX6_spoil 35 = .ok (.aload_n 0, 1) := by decide +kernel
theorem dX6_spoil_36 : decode cX6_spoil 36 = .ok (.iload_n 1, 1) := by decide +kernel
theorem dX6_spoil_37 : decode cX6_spoil 37 = .ok (.iconst 4, 1) := by decide +kernel
theorem dX6_spoil_38 : decode cX6_spoil 38 = .ok (.invokevirtual 54, 3) := by decide +kernel
theorem dX6_spoil_41 : decode cX6_spoil 41 = .ok (.iload_n 2, 1) := by decide +kernel
theorem dX6_spoil_42 : decode cX6_spoil 42 = .ok (.if_icmp .ge 6, 3) := by decide +kernel
theorem dX6_spoil_45 : decode cX6_spoil 45 = .ok (.bipush (-4), 2) := by decide +kernel
theorem dX6_spoil_47 : decode cX6_spoil 47 = .ok (.ireturn, 1) := by decide +kernel
theorem dX6_spoil_48 : decode cX6_spoil 48 = .ok (.aload_n 0, 1) := by decide +kernel
theorem dX6_spoil_49 : decode cX6_spoil 49 = .ok (.invokevirtual 40, 3) := by decide +kernel
theorem dX6_spoil_52 : decode cX6_spoil 52 = .ok (.aload_n 0, 1) := by decide +kernel
theorem dX6_spoil_53 : decode cX6_spoil 53 = .ok (.iload_n 1, 1) := by decide +kernel
theorem dX6_spoil_54 : decode cX6_spoil 54 = .ok (.bipush 6, 2) := by decide +kernel
theorem dX6_spoil_56 : decode cX6_spoil 56 = .ok (.iload_n 2, 1) := by decide +kernel
theorem dX6_spoil_57 : decode cX6_spoil 57 = .ok (.invokevirtual 43, 3) := by decide +kernel
theorem dX6_spoil_60 : decode cX6_spoil 60 = .ok (.aload_n 0, 1) := by decide +kernel
theorem dX6_spoil_61 : decode cX6_spoil 61 = .ok (.iload_n 1, 1) := by decide +kernel
theorem dX6_spoil_62 : decode cX6_spoil 62 = .ok (.iconst 5, 1) := by decide +kernel
theorem dX6_spoil_63 : decode cX6_spoil 63 = .ok (.iload_n 2, 1) := by decide +kernel
theorem dX6_spoil_64 : decode cX6_spoil 64 = .ok (.invokevirtual 43, 3) := by decide +kernel
theorem dX6_spoil_67 : decode cX6_spoil 67 = .ok (.aload_n 0, 1) := by decide +kernel
theorem dX6_spoil_68 : decode cX6_spoil 68 = .ok (.iload_n 1, 1) := by decide +kernel
theorem dX6_spoil_69 : decode cX6_spoil 69 = .ok (.iconst 4, 1) := by decide +kernel
theorem dX6_spoil_70 : decode cX6_spoil 70 = .ok (.iload_n 2, 1) := by decide +kernel
theorem dX6_spoil_71 : decode cX6_spoil 71 = .ok (.ineg, 1) := by decide +kernel
theorem dX6_spoil_72 : decode cX6_spoil 72 = .ok (.invokevirtual 43, 3) := by decide +kernel
theorem dX6_spoil_75 : decode cX6_spoil 75 = .ok (.aload_n 0, 1) := by decide +kernel
theorem dX6_spoil_76 : decode cX6_spoil 76 = .ok (.iload_n 1, 1) := by decide +kernel
theorem dX6_spoil_77 : decode cX6_spoil 77 = .ok (.iconst 4, 1) := by decide +kernel
theorem dX6_spoil_78 : decode cX6_spoil 78 = .ok (.invokevirtual 54, 3) := by decide +kernel
theorem dX6_spoil_81 : decode cX6_spoil 81 = .ok (.ireturn, 1) := by decide +kernel
theorem dX6_carryOff_0 : decode cX6_carryOff 0 = .ok (.aload_n 0, 1) := by decide +kernel
theorem dX6_carryOff_1 : decode cX6_carryOff 1 = .ok (.iload_n 1, 1) := by decide +kernel
theorem dX6_carryOff_2 : decode cX6_carryOff 2 = .ok (.invokevirtual 50, 3) := by decide +kernel
theorem dX6_carryOff_5 : decode cX6_carryOff 5 = .ok (.ifCond .ne 5, 3) := by decide +kernel
theorem dX6_carryOff_8 : decode cX6_carryOff 8 = .ok (.iconst (-1), 1) := by decide +kernel
theorem dX6_carryOff_9 : decode cX6_carryOff 9 = .ok (.ireturn, 1) := by decide +kernel
theorem dX6_carryOff_10 : decode cX6_carryOff 10 = .ok (.iload_n 2, 1) := by decide +kernel
theorem dX6_carryOff_11 : decode cX6_carryOff 11 = .ok (.iconst 1, 1) := by decide +kernel
theorem dX6_carryOff_12 : decode cX6_carryOff 12 = .ok (.sipush 9999, 3) := by decide +kernel
theorem dX6_carryOff_15 : decode cX6_carryOff 15 = .ok (.invokestatic 36, 3) := by decide +kernel
theorem dX6_carryOff_18 : decode cX6_carryOff 18 = .ok (.ifCond .ne 6, 3) := by decide +kernel
theorem dX6_carryOff_21 : decode cX6_carryOff 21 = .ok (.bipush (-2), 2) := by decide +kernel
theorem dX6_carryOff_23 : decode cX6_carryOff 23 = .ok (.ireturn, 1) := by decide +kernel
theorem dX6_carryOff_24 : decode cX6_carryOff 24 = .ok (.aload_n 0, 1) := by decide +kernel
theorem dX6_carryOff_25 : decode cX6_carryOff 25 = .ok (.iload_n 1, 1) := by decide +kernel
theorem dX6_carryOff_26 : decode cX6_carryOff 26 = .ok (.bipush 9, 2) := by decide +kernel
theorem dX6_carryOff_28 : decode cX6_carryOff 28 = .ok (.invokevirtual 54, 3) := by decide +kernel
theorem dX6_carryOff_31 : decode cX6_carryOff 31 = .ok (.iload_n 2, 1) := by decide +kernel
theorem dX6_carryOff_32 : decode cX6_carryOff 32 = .ok (.if_icmp .ge 6, 3) := by decide +kernel
theorem dX6_carryOff_35 : decode cX6_carryOff 35 = .ok (.bipush (-4), 2) := by decide +kernel
theorem dX6_carryOff_37 : decode cX6_carryOff 37 = .ok (.ireturn, 1) := by decide +kernel
theorem dX6_carryOff_38 : decode cX6_carryOff 38 = .ok (.aload_n 0, 1) := by decide +kernel
theorem dX6_carryOff_39 : decode cX6_carryOff 39 = .ok (.invokevirtual 40, 3) := by decide +kernel
theorem dX6_carryOff_42 : decode cX6_carryOff 42 = .ok (.aload_n 0, 1) := by decide +kernel
theorem dX6_carryOff_43 : decode cX6_carryOff 43 = .ok (.iload_n 1, 1) := by decide +kernel
theorem dX6_carryOff_44 : decode cX6_carryOff 44 = .ok (.bipush 9, 2) := by decide +kernel
theorem dX6_carryOff_46 : decode cX6_carryOff 46 = .ok (.iload_n 2, 1) := by decide +kernel
theorem dX6_carryOff_47 : decode cX6_carryOff 47 = .ok (.ineg, 1) := by decide +kernel
theorem dX6_carryOff_48 : decode cX6_carryOff 48 = .ok (.invokevirtual 43, 3) := by decide +kernel
theorem dX6_carryOff_51 : decode cX6_carryOff 51 = .ok (.aload_n 0, 1) := by decide +kernel
theorem dX6_carryOff_52 : decode cX6_carryOff 52 = .ok (.iload_n 1, 1) := by decide +kernel
theorem dX6_carryOff_53 : decode cX6_carryOff 53 = .ok (.bipush 7, 2) := by decide +kernel
theorem dX6_carryOff_55 : decode cX6_carryOff 55 = .ok (.iload_n 2, 1) := by decide +kernel
theorem dX6_carryOff_56 : decode cX6_carryOff 56 = .ok (.invokevirtual 43, 3) := by decide +kernel
theorem dX6_carryOff_59 : decode cX6_carryOff 59 = .ok (.aload_n 0, 1) := by decide +kernel
theorem dX6_carryOff_60 : decode cX6_carryOff 60 = .ok (.iload_n 1, 1) := by decide +kernel
theorem dX6_carryOff_61 : decode cX6_carryOff 61 = .ok (.bipush 9, 2) := by decide +kernel
theorem dX6_carryOff_63 : decode cX6_carryOff 63 = .ok (.invokevirtual 54, 3) := by decide +kernel
theorem dX6_carryOff_66 : decode cX6_carryOff 66 = .ok (.ireturn, 1) := by decide +kernel
theorem dX6_find_0 : decode cX6_find 0 = .ok (.aload_n 0, 1) := by decide +kernel
theorem dX6_find_1 : decode cX6_find 1 = .ok (.iload_n 1, 1) := by decide +kernel
theorem dX6_find_2 : decode cX6_find 2 = .ok (.invokevirtual 50, 3) := by decide +kernel
theorem dX6_find_5 : decode cX6_find 5 = .ok (.ifCond .ne 5, 3) := by decide +kernel
theorem dX6_find_8 : decode cX6_find 8 = .ok (.iconst (-1), 1) := by decide +kernel
theorem dX6_find_9 : decode cX6_find 9 = .ok (.ireturn, 1) := by decide +kernel
theorem dX6_find_10 : decode cX6_find 10 = .ok (.iload_n 2, 1) := by decide +kernel
theorem dX6_find_11 : decode cX6_find 11 = .ok (.iconst 1, 1) := by decide +kernel
theorem dX6_find_12 : decode cX6_find 12 = .ok (.sipush 9999, 3) := by decide +kernel
theorem dX6_find_15 : decode cX6_find 15 = .ok (.invokestatic 36, 3) := by decide +kernel
theorem dX6_find_18 : decode cX6_find 18 = .ok (.ifCond .ne 6, 3) := by decide +kernel
theorem dX6_find_21 : decode cX6_find 21 = .ok (.bipush (-2), 2) := by decide +kernel
theorem dX6_find_23 : decode cX6_find 23 = .ok (.ireturn, 1) := by decide +kernel
theorem dX6_find_24 : decode cX6_find 24 = .ok (.aload_n 0, 1) := by decide +kernel
theorem dX6_find_25 : decode cX6_find 25 = .ok (.iload_n 1, 1) := by decide +kernel
theorem dX6_find_26 : decode cX6_find 26 = .ok (.bipush 7, 2) := by decide +kernel
theorem dX6_find_28 : decode cX6_find 28 = .ok (.invokevirtual 54, 3) := by decide +kernel
theorem dX6_find_31 : decode cX6_find 31 = .ok (.iload_n 2, 1) := by decide +kernel
theorem dX6_find_32 : decode cX6_find 32 = .ok (.if_icmp .ge 6, 3) := by decide +kernel
theorem dX6_find_35 : decode cX6_find 35 = .ok (.bipush (-4), 2) := by decide +kernel
theorem dX6_find_37 : decode cX6_find 37 = .ok (.ireturn, 1) := by decide +kernel
theorem dX6_find_38 : decode cX6_find 38 = .ok (.aload_n 0, 1) := by decide +kernel
theorem dX6_find_39 : decode cX6_find 39 = .ok (.invokevirtual 40, 3) := by decide +kernel
theorem dX6_find_42 : decode cX6_find 42 = .ok (.aload_n 0, 1) := by decide +kernel
theorem dX6_find_43 : decode cX6_find 43 = .ok (.iload_n 1, 1) := by decide +kernel
theorem dX6_find_44 : decode cX6_find 44 = .ok (.bipush 7, 2) := by decide +kernel
theorem dX6_find_46 : decode cX6_find 46 = .ok (.iload_n 2, 1) := by decide +kernel
theorem dX6_find_47 : decode cX6_find 47 = .ok (.ineg, 1) := by decide +kernel
theorem dX6_find_48 : decode cX6_find 48 = .ok (.invokevirtual 43, 3) := by decide +kernel
theorem dX6_find_51 : decode cX6_find 51 = .ok (.aload_n 0, 1) := by decide +kernel
theorem dX6_find_52 : decode cX6_find 52 = .ok (.iload_n 1, 1) := by decide +kernel
theorem dX6_find_53 : decode cX6_find 53 = .ok (.bipush 8, 2) := by decide +kernel
theorem dX6_find_55 : decode cX6_find 55 = .ok (.iload_n 2, 1) := by decide +kernel
theorem dX6_find_56 : decode cX6_find 56 = .ok (.invokevirtual 43, 3) := by decide +kernel
theorem dX6_find_59 : decode cX6_find 59 = .ok (.aload_n 0, 1) := by decide +kernel
theorem dX6_find_60 : decode cX6_find 60 = .ok (.iload_n 1, 1) := by decide +kernel
theorem dX6_find_61 : decode cX6_find 61 = .ok (.bipush 7, 2) := by decide +kernel
theorem dX6_find_63 : decode cX6_find 63 = .ok (.invokevirtual 54, 3) := by decide +kernel
theorem dX6_find_66 : decode cX6_find 66 = .ok (.ireturn, 1) := by decide +kernel
theorem dX6_countBox_0 : decode cX6_countBox 0 = .ok (.aload_n 0, 1) := by decide +kernel
theorem dX6_countBox_1 : decode cX6_countBox 1 = .ok (.iload_n 1, 1) := by decide +kernel
theorem dX6_countBox_2 : decode cX6_countBox 2 = .ok (.invokevirtual 50, 3) := by decide +kernel
theorem dX6_countBox_5 : decode cX6_countBox 5 = .ok (.ifCond .ne 5, 3) := by decide +kernel
theorem dX6_countBox_8 : decode cX6_countBox 8 = .ok (.iconst (-1), 1) := by decide +kernel
theorem dX6_countBox_9 : decode cX6_countBox 9 = .ok (.ireturn, 1) := by decide +kernel
theorem dX6_countBox_10 : decode cX6_countBox 10 = .ok (.iload_n 2, 1) := by decide +kernel
theorem dX6_countBox_11 : decode cX6_countBox 11 = .ok (.iconst 0, 1) := by decide +kernel
theorem dX6_countBox_12 : decode cX6_countBox 12 = .ok (.ldc 97, 2) := by decide +kernel
theorem dX6_countBox_14 : decode cX6_countBox 14 = .ok (.invokestatic 36, 3) := by decide +kernel
theorem dX6_countBox_17 : decode cX6_countBox 17 = .ok (.ifCond .ne 6, 3) := by decide +kernel
theorem dX6_countBox_20 : decode cX6_countBox 20 = .ok (.bipush (-2), 2) := by decide +kernel
theorem dX6_countBox_22 : decode cX6_countBox 22 = .ok (.ireturn, 1) := by decide +kernel
theorem dX6_countBox_23 : decode cX6_countBox 23 = .ok (.aload_n 0, 1) := by decide +kernel
theorem dX6_countBox_24 : decode cX6_countBox 24 = .ok (.getfield 7, 3) := by decide +kernel
theorem dX6_countBox_27 : decode cX6_countBox 27 = .ok (.iconst 0, 1) := by decide +kernel
theorem dX6_countBox_28 : decode cX6_countBox 28 = .ok (.iaload, 1) := by decide +kernel
theorem dX6_countBox_29 : decode cX6_countBox 29 = .ok (.bipush 15, 2) := by decide +kernel
theorem dX6_countBox_31 : decode cX6_countBox 31 = .ok (.if_icmp .lt 12, 3) := by decide +kernel
theorem dX6_countBox_34 : decode cX6_countBox 34 = .ok (.aload_n 0, 1) := by decide +kernel
theorem dX6_countBox_35 : decode cX6_countBox 35 = .ok (.iload_n 1, 1) := by decide +kernel
theorem dX6_countBox_36 : decode cX6_countBox 36 = .ok (.iconst 0, 1) := by decide +kernel
theorem dX6_countBox_37 : decode cX6_countBox 37 = .ok (.invokevirtual 54, 3) := by decide +kernel
theorem dX6_countBox_40 : decode cX6_countBox 40 = .ok (.ifCond .le 6, 3) := by decide +kernel
theorem dX6_countBox_43 : decode cX6_countBox 43 = .ok (.bipush (-4), 2) := by decide +kernel
theorem dX6_countBox_45 : decode cX6_countBox 45 = .ok (.ireturn, 1) := by decide +kernel
theorem dX6_countBox_46 : decode cX6_countBox 46 = .ok (.aload_n 0, 1) := by decide +kernel
theorem dX6_countBox_47 : decode cX6_countBox 47 = .ok (.iload_n 1, 1) := by decide +kernel
theorem dX6_countBox_48 : decode cX6_countBox 48 = .ok (.bipush 11, 2) := by decide +kernel
theorem dX6_countBox_50 : decode cX6_countBox 50 = .ok (.invokevirtual 54, 3) := by decide +kernel
theorem dX6_countBox_53 : decode cX6_countBox 53 = .ok (.iconst 3, 1) := by decide +kernel
theorem dX6_countBox_54 : decode cX6_countBox 54 = .ok (.if_icmp .ne 6, 3) := by decide +kernel
theorem dX6_countBox_57 : decode cX6_countBox 57 = .ok (.bipush (-3), 2) := by decide +kernel
theorem dX6_countBox_59 : decode cX6_countBox 59 = .ok (.ireturn, 1) := by decide +kernel
theorem dX6_countBox_60 : decode cX6_countBox 60 = .ok (.aload_n 0, 1) := by decide +kernel
theorem dX6_countBox_61 : decode cX6_countBox 61 = .ok (.invokevirtual 40, 3) := by decide +kernel
theorem dX6_countBox_64 : decode cX6_countBox 64 = .ok (.aload_n 0, 1) := by decide +kernel
theorem dX6_countBox_65 : decode cX6_countBox 65 = .ok (.iload_n 1, 1) := by decide +kernel
theorem dX6_countBox_66 : decode cX6_countBox 66 = .ok (.bipush 10, 2) := by decide +kernel
theorem dX6_countBox_68 : decode cX6_countBox 68 = .ok (.iload_n 2, 1) := by decide +kernel
theorem dX6_countBox_69 : decode cX6_countBox 69 = .ok (.aload_n 0, 1) := by decide +kernel
theorem dX6_countBox_70 : decode cX6_countBox 70 = .ok (.iload_n 1, 1) := by decide +kernel
theorem dX6_countBox_71 : decode cX6_countBox 71 = .ok (.bipush 10, 2) := by decide +kernel
theorem dX6_countBox_73 : decode cX6_countBox 73 = .ok (.invokevirtual 54, 3) := by decide +kernel
theorem dX6_countBox_76 : decode cX6_countBox 76 = .ok (.isub, 1) := by decide +kernel
theorem dX6_countBox_77 : decode cX6_countBox 77 = .ok (.invokevirtual 43, 3) := by decide +kernel
theorem dX6_countBox_80 : decode cX6_countBox 80 = .ok (.aload_n 0, 1) := by decide +kernel
theorem dX6_countBox_81 : decode cX6_countBox 81 = .ok (.iload_n 1, 1) := by decide +kernel
theorem dX6_countBox_82 : decode cX6_countBox 82 = .ok (.bipush 11, 2) := by decide +kernel
theorem dX6_countBox_84 : decode cX6_countBox 84 = .ok (.iconst 1, 1) := by decide +kernel
theorem dX6_countBox_85 : decode cX6_countBox 85 = .ok (.invokevirtual 43, 3) := by decide +kernel
theorem dX6_countBox_88 : decode cX6_countBox 88 = .ok (.aload_n 0, 1) := by decide +kernel
theorem dX6_countBox_89 : decode cX6_countBox 89 = .ok (.iload_n 1, 1) := by decide +kernel
theorem dX6_countBox_90 : decode cX6_countBox 90 = .ok (.bipush 11, 2) := by decide +kernel
theorem dX6_countBox_92 : decode cX6_countBox 92 = .ok (.invokevirtual 54, 3) := by decide +kernel
theorem dX6_countBox_95 : decode cX6_countBox 95 = .ok (.ireturn, 1) := by decide +kernel
theorem dX6_type_0 : decode cX6_type 0 = .ok (.aload_n 0, 1) := by decide +kernel
theorem dX6_type_1 : decode cX6_type 1 = .ok (.getfield 98, 3) := by decide +kernel
theorem dX6_type_4 : decode cX6_type 4 = .ok (.bipush 60, 2) := by decide +kernel
theorem dX6_type_6 : decode cX6_type 6 = .ok (.if_icmp .ne 6, 3) := by decide +kernel
theorem dX6_type_9 : decode cX6_type 9 = .ok (.bipush (-3), 2) := by decide +kernel
theorem dX6_type_11 : decode cX6_type 11 = .ok (.ireturn, 1) := by decide +kernel
theorem dX6_type_12 : decode cX6_type 12 = .ok (.aload_n 0, 1) := by decide +kernel
theorem dX6_type_13 : decode cX6_type 13 = .ok (.getfield 22, 3) := by decide +kernel
theorem dX6_type_16 : decode cX6_type 16 = .ok (.aload_n 0, 1) := by decide +kernel
theorem dX6_type_17 : decode cX6_type 17 = .ok (.getfield 98, 3) := by decide +kernel
theorem dX6_type_20 : decode cX6_type 20 = .ok (.iload_n 1, 1) := by decide +kernel
theorem dX6_type_21 : decode cX6_type 21 = .ok (.iastore, 1) := by decide +kernel
theorem dX6_type_22 : decode cX6_type 22 = .ok (.aload_n 0, 1) := by decide +kernel
theorem dX6_type_23 : decode cX6_type 23 = .ok (.dup, 1) := by decide +kernel
theorem dX6_type_24 : decode cX6_type 24 = .ok (.getfield 98, 3) := by decide +kernel
theorem dX6_type_27 : decode cX6_type 27 = .ok (.iconst 1, 1) := by decide +kernel
theorem dX6_type_28 : decode cX6_type 28 = .ok (.iadd, 1) := by decide +kernel
theorem dX6_type_29 : decode cX6_type 29 = .ok (.putfield 98, 3) := by decide +kernel
theorem dX6_type_32 : decode cX6_type 32 = .ok (.aload_n 0, 1) := by decide +kernel
theorem dX6_type_33 : decode cX6_type 33 = .ok (.getfield 98, 3) := by decide +kernel
theorem dX6_type_36 : decode cX6_type 36 = .ok (.ireturn, 1) := by decide +kernel
theorem dX6_clearText_0 : decode cX6_clearText 0 = .ok (.aload_n 0, 1) := by decide +kernel
theorem dX6_clearText_1 : decode cX6_clearText 1 = .ok (.getfield 98, 3) := by decide +kernel
theorem dX6_clearText_4 : decode cX6_clearText 4 = .ok (.istore_n 1, 1) := by decide +kernel
theorem dX6_clearText_5 : decode cX6_clearText 5 = .ok (.aload_n 0, 1) := by decide +kernel
theorem dX6_clearText_6 : decode cX6_clearText 6 = .ok (.iconst 0, 1) := by decide +kernel
theorem dX6_clearText_7 : decode cX6_clearText 7 = .ok (.putfield 98, 3) := by decide +kernel
theorem dX6_clearText_10 : decode cX6_clearText 10 = .ok (.iload_n 1, 1) := by decide +kernel
theorem dX6_clearText_11 : decode cX6_clearText 11 = .ok (.ireturn, 1) := by decide +kernel
theorem dX6_signAt_0 : decode cX6_signAt 0 = .ok (.iload_n 1, 1) := by decide +kernel
theorem dX6_signAt_1 : decode cX6_signAt 1 = .ok (.aload_n 0, 1) := by decide +kernel
theorem dX6_signAt_2 : decode cX6_signAt 2 = .ok (.getfield 98, 3) := by decide +kernel
theorem dX6_signAt_5 : decode cX6_signAt 5 = .ok (.if_icmp .ge 12, 3) := by decide +kernel
theorem dX6_signAt_8 : decode cX6_signAt 8 = .ok (.aload_n 0, 1) := by decide +kernel
theorem dX6_signAt_9 : decode cX6_signAt 9 = .ok (.getfield 22, 3) := by decide +kernel
theorem dX6_signAt_12 : decode cX6_signAt 12 = .ok (.iload_n 1, 1) := by decide +kernel
theorem dX6_signAt_13 : decode cX6_signAt 13 = .ok (.iaload, 1) := by decide +kernel
theorem dX6_signAt_14 : decode cX6_signAt 14 = .ok (.goto 5, 3) := by decide +kernel
theorem dX6_signAt_17 : decode cX6_signAt 17 = .ok (.bipush (-5), 2) := by decide +kernel
theorem dX6_signAt_19 : decode cX6_signAt 19 = .ok (.ireturn, 1) := by decide +kernel
theorem dX6_faultOf_0 : decode cX6_faultOf 0 = .ok (.iconst 0, 1) := by decide +kernel
theorem dX6_faultOf_1 : decode cX6_faultOf 1 = .ok (.istore_n 1, 1) := by decide +kernel
theorem dX6_faultOf_2 : decode cX6_faultOf 2 = .ok (.aload_n 0, 1) := by decide +kernel
theorem dX6_faultOf_3 : decode cX6_faultOf 3 = .ok (.iconst 0, 1) := by decide +kernel
theorem dX6_faultOf_4 : decode cX6_faultOf 4 = .ok (.putfield 101, 3) := by decide +kernel
theorem dX6_faultOf_7 : decode cX6_faultOf 7 = .ok (.iconst 1, 1) := by decide +kernel
theorem dX6_faultOf_8 : decode cX6_faultOf 8 = .ok (.istore_n 2, 1) := by decide +kernel
theorem dX6_faultOf_9 : decode cX6_faultOf 9 = .ok (.iload_n 2, 1) := by decide +kernel
theorem dX6_faultOf_10 : decode cX6_faultOf 10 = .ok (.ifCond .eq 148, 3) := by decide +kernel
theorem dX6_faultOf_13 : decode cX6_faultOf 13 = .ok (.aload_n 0, 1) := by decide +kernel
theorem dX6_faultOf_14 : decode cX6_faultOf 14 = .ok (.iload_n 1, 1) := by decide +kernel
theorem dX6_faultOf_15 : decode cX6_faultOf 15 = .ok (.invokevirtual 104, 3) := by decide +kernel
theorem dX6_faultOf_18 : decode cX6_faultOf 18 = .ok (.bipush 48, 2) := by decide +kernel
theorem dX6_faultOf_20 : decode cX6_faultOf 20 = .ok (.bipush 57, 2) := by decide +kernel
theorem dX6_faultOf_22 : decode cX6_faultOf 22 = .ok (.invokestatic 36, 3) := by decide +kernel
theorem dX6_faultOf_25 : decode cX6_faultOf 25 = .ok (.ifCond .ne 5, 3) := by decide +kernel
theorem dX6_faultOf_28 : decode cX6_faultOf 28 = .ok (.iload_n 1, 1) := by decide +kernel
theorem dX6_faultOf_29 : decode cX6_faultOf 29 = .ok (.ireturn, 1) := by decide +kernel
theorem dX6_faultOf_30 : decode cX6_faultOf 30 = .ok (.aload_n 0, 1) := by decide +kernel
theorem dX6_faultOf_31 : decode cX6_faultOf 31 = .ok (.iload_n 1, 1) := by decide +kernel
theorem dX6_faultOf_32 : decode cX6_faultOf 32 = .ok (.invokevirtual 104, 3) := by decide +kernel
theorem dX6_faultOf_35 : decode cX6_faultOf 35 = .ok (.bipush 48, 2) := by decide +kernel
theorem dX6_faultOf_37 : decode cX6_faultOf 37 = .ok (.isub, 1) := by decide +kernel
theorem dX6_faultOf_38 : decode cX6_faultOf 38 = .ok (.istore_n 3, 1) := by decide +kernel
theorem dX6_faultOf_39 : decode cX6_faultOf 39 = .ok (.iinc 1 1, 3) := by decide +kernel
theorem dX6_faultOf_42 : decode cX6_faultOf 42 = .ok (.iconst 0, 1) := by decide +kernel
theorem dX6_faultOf_43 : decode cX6_faultOf 43 = .ok (.istore 4, 2) := by decide +kernel
theorem dX6_faultOf_45 : decode cX6_faultOf 45 = .ok (.iload 4, 2) := by decide +kernel
theorem dX6_faultOf_47 : decode cX6_faultOf 47 = .ok (.iconst 2, 1) := by decide +kernel
theorem dX6_faultOf_48 : decode cX6_faultOf 48 = .ok (.if_icmp .ge 45, 3) := by decide +kernel
theorem dX6_faultOf_51 : decode cX6_faultOf 51 = .ok (.iload_n 3, 1) := by decide +kernel
theorem dX6_faultOf_52 : decode cX6_faultOf 52 = .ok (.ifCond .le 41, 3) := by decide +kernel
theorem dX6_faultOf_55 : decode cX6_faultOf 55 = .ok (.aload_n 0, 1) := by decide +kernel
theorem dX6_faultOf_56 : decode cX6_faultOf 56 = .ok (.iload_n 1, 1) := by decide +kernel
theorem dX6_faultOf_57 : decode cX6_faultOf 57 = .ok (.invokevirtual 104, 3) := by decide +kernel
theorem dX6_faultOf_60 : decode cX6_faultOf 60 = .ok (.bipush 48, 2) := by decide +kernel
theorem dX6_faultOf_62 : decode cX6_faultOf 62 = .ok (.bipush 57, 2) := by decide +kernel
theorem dX6_faultOf_64 : decode cX6_faultOf 64 = .ok (.invokestatic 36, 3) := by decide +kernel
theorem dX6_faultOf_67 : decode cX6_faultOf 67 = .ok (.ifCond .eq 26, 3) := by decide +kernel
theorem dX6_faultOf_70 : decode cX6_faultOf 70 = .ok (.bipush 10, 2) := by decide +kernel
theorem dX6_faultOf_72 : decode cX6_faultOf 72 = .ok (.iload_n 3, 1) := by decide +kernel
theorem dX6_faultOf_73 : decode cX6_faultOf 73 = .ok (.imul, 1) := by decide +kernel
theorem dX6_faultOf_74 : decode cX6_faultOf 74 = .ok (.aload_n 0, 1) := by decide +kernel
theorem dX6_faultOf_75 : decode cX6_faultOf 75 = .ok (.iload_n 1, 1) := by decide +kernel
theorem dX6_faultOf_76 : decode cX6_faultOf 76 = .ok (.invokevirtual 104, 3) := by decide +kernel
theorem dX6_faultOf_79 : decode cX6_faultOf 79 = .ok (.iadd, 1) := by decide +kernel
theorem dX6_faultOf_80 : decode cX6_faultOf 80 = .ok (.bipush 48, 2) := by decide +kernel
theorem dX6_faultOf_82 : decode cX6_faultOf 82 = .ok (.isub, 1) := by decide +kernel
theorem dX6_faultOf_83 : decode cX6_faultOf 83 = .ok (.istore_n 3, 1) := by decide +kernel
theorem dX6_faultOf_84 : decode cX6_faultOf 84 = .ok (.iinc 1 1, 3) := by decide +kernel
theorem dX6_faultOf_87 : decode cX6_faultOf 87 = .ok (.iinc 4 1, 3) := by decide +kernel
theorem dX6_faultOf_90 : decode cX6_faultOf 90 = .ok (.goto (-45), 3) := by decide +kernel
theorem dX6_faultOf_93 : decode cX6_faultOf 93 = .ok (.aload_n 0, 1) := by decide +kernel
theorem dX6_faultOf_94 : decode cX6_faultOf 94 = .ok (.getfield 25, 3) := by decide +kernel
theorem dX6_faultOf_97 : decode cX6_faultOf 97 = .ok (.aload_n 0, 1) := by decide +kernel
theorem dX6_faultOf_98 : decode cX6_faultOf 98 = .ok (.getfield 101, 3) := by decide +kernel
theorem dX6_faultOf_101 : decode cX6_faultOf 101 = .ok (.iload_n 3, 1) := by decide +kernel
theorem dX6_faultOf_102 : decode cX6_faultOf 102 = .ok (.iastore, 1) := by decide +kernel
theorem dX6_faultOf_103 : decode cX6_faultOf 103 = .ok (.aload_n 0, 1) := by decide +kernel
theorem dX6_faultOf_104 : decode cX6_faultOf 104 = .ok (.dup, 1) := by decide +kernel
theorem dX6_faultOf_105 : decode cX6_faultOf 105 = .ok (.getfield 101, 3) := by decide +kernel
theorem dX6_faultOf_108 : decode cX6_faultOf 108 = .ok (.iconst 1, 1) := by decide +kernel
theorem dX6_faultOf_109 : decode cX6_faultOf 109 = .ok (.iadd, 1) := by decide +kernel
theorem dX6_faultOf_110 : decode cX6_faultOf 110 = .ok (.putfield 101, 3) := by decide +kernel
theorem dX6_faultOf_113 : decode cX6_faultOf 113 = .ok (.iload_n 1, 1) := by decide +kernel
theorem dX6_faultOf_114 : decode cX6_faultOf 114 = .ok (.aload_n 0, 1) := by decide +kernel
theorem dX6_faultOf_115 : decode cX6_faultOf 115 = .ok (.getfield 98, 3) := by decide +kernel
theorem dX6_faultOf_118 : decode cX6_faultOf 118 = .ok (.if_icmp .ge 7, 3) := by decide +kernel
theorem dX6_faultOf_121 : decode cX6_faultOf 121 = .ok (.iconst 1, 1) := by decide +kernel
theorem dX6_faultOf_122 : decode cX6_faultOf 122 = .ok (.goto 4, 3) := by decide +kernel
theorem dX6_faultOf_125 : decode cX6_faultOf 125 = .ok (.iconst 0, 1) := by decide +kernel
theorem dX6_faultOf_126 : decode cX6_faultOf 126 = .ok (.istore_n 2, 1) := by decide +kernel
theorem dX6_faultOf_127 : decode cX6_faultOf 127 = .ok (.iload_n 2, 1) := by decide +kernel
theorem dX6_faultOf_128 : decode cX6_faultOf 128 = .ok (.ifCond .eq 15, 3) := by decide +kernel
theorem dX6_faultOf_131 : decode cX6_faultOf 131 = .ok (.aload_n 0, 1) := by decide +kernel
theorem dX6_faultOf_132 : decode cX6_faultOf 132 = .ok (.iload_n 1, 1) := by decide +kernel
theorem dX6_faultOf_133 : decode cX6_faultOf 133 = .ok (.invokevirtual 104, 3) := by decide +kernel
theorem dX6_faultOf_136 : decode cX6_faultOf 136 = .ok (.bipush 44, 2) := by decide +kernel
theorem dX6_faultOf_138 : decode cX6_faultOf 138 = .ok (.if_icmp .eq 5, 3) := by decide +kernel
theorem dX6_faultOf_141 : decode cX6_faultOf 141 = .ok (.iload_n 1, 1) := by decide +kernel
theorem dX6_faultOf_142 : decode cX6_faultOf 142 = .ok (.ireturn, 1) := by decide +kernel
theorem dX6_faultOf_143 : decode cX6_faultOf 143 = .ok (.iload_n 1, 1) := by decide +kernel
theorem dX6_faultOf_144 : decode cX6_faultOf 144 = .ok (.iload_n 2, 1) := by decide +kernel
theorem dX6_faultOf_145 : decode cX6_faultOf 145 = .ok (.ifCond .eq 7, 3) := by decide +kernel
theorem dX6_faultOf_148 : decode cX6_faultOf 148 = .ok (.iconst 1, 1) := by decide +kernel
theorem dX6_faultOf_149 : decode cX6_faultOf 149 = .ok (.goto 4, 3) := by decide +kernel
theorem dX6_faultOf_152 : decode cX6_faultOf 152 = .ok (.iconst 0, 1) := by decide +kernel
theorem dX6_faultOf_153 : decode cX6_faultOf 153 = .ok (.iadd, 1) := by decide +kernel
theorem dX6_faultOf_154 : decode cX6_faultOf 154 = .ok (.istore_n 1, 1) := by decide +kernel
theorem dX6_faultOf_155 : decode cX6_faultOf 155 = .ok (.goto (-146), 3) := by decide +kernel
theorem dX6_faultOf_158 : decode cX6_faultOf 158 = .ok (.bipush (-5), 2) := by decide +kernel
theorem dX6_faultOf_160 : decode cX6_faultOf 160 = .ok (.ireturn, 1) := by decide +kernel
theorem dX6_readArrivals_0 : decode cX6_readArrivals 0 = .ok (.aload_n 0, 1) := by decide +kernel
theorem dX6_readArrivals_1 : decode cX6_readArrivals 1 = .ok (.iload_n 1, 1) := by decide +kernel
theorem dX6_readArrivals_2 : decode cX6_readArrivals 2 = .ok (.invokevirtual 50, 3) := by decide +kernel
theorem dX6_readArrivals_5 : decode cX6_readArrivals 5 = .ok (.ifCond .ne 5, 3) := by decide +kernel
theorem dX6_readArrivals_8 : decode cX6_readArrivals 8 = .ok (.iconst (-1), 1) := by decide +kernel
theorem dX6_readArrivals_9 : decode cX6_readArrivals 9 = .ok (.ireturn, 1) := by decide +kernel
theorem dX6_readArrivals_10 : decode cX6_readArrivals 10 = .ok (.iload_n 2, 1) := by decide +kernel
theorem dX6_readArrivals_11 : decode cX6_readArrivals 11 = .ok (.aload_n 0, 1) := by decide +kernel
theorem dX6_readArrivals_12 : decode cX6_readArrivals 12 = .ok (.getfield 7, 3) := by decide +kernel
theorem dX6_readArrivals_15 : decode cX6_readArrivals 15 = .ok (.iconst 0, 1) := by decide +kernel
theorem dX6_readArrivals_16 : decode cX6_readArrivals 16 = .ok (.iaload, 1) := by decide +kernel
theorem dX6_readArrivals_17 : decode cX6_readArrivals 17 = .ok (.bipush 14, 2) := by decide +kernel
theorem dX6_readArrivals_19 : decode cX6_readArrivals 19 = .ok (.invokestatic 36, 3) := by decide +kernel
theorem dX6_readArrivals_22 : decode cX6_readArrivals 22 = .ok (.ifCond .ne 6, 3) := by decide +kernel
theorem dX6_readArrivals_25 : decode cX6_readArrivals 25 = .ok (.bipush (-2), 2) := by decide +kernel
theorem dX6_readArrivals_27 : decode cX6_readArrivals 27 = .ok (.ireturn, 1) := by decide +kernel
theorem dX6_readArrivals_28 : decode cX6_readArrivals 28 = .ok (.aload_n 0, 1) := by decide +kernel
theorem dX6_readArrivals_29 : decode cX6_readArrivals 29 = .ok (.invokevirtual 107, 3) := by decide +kernel
theorem dX6_readArrivals_32 : decode cX6_readArrivals 32 = .ok (.istore_n 3, 1) := by decide +kernel
theorem dX6_readArrivals_33 : decode cX6_readArrivals 33 = .ok (.iload_n 3, 1) := by decide +kernel
theorem dX6_readArrivals_34 : decode cX6_readArrivals 34 = .ok (.bipush (-5), 2) := by decide +kernel
theorem dX6_readArrivals_36 : decode cX6_readArrivals 36 = .ok (.if_icmp .eq 8, 3) := by decide +kernel
theorem dX6_readArrivals_39 : decode cX6_readArrivals 39 = .ok (.bipush (-100), 2) := by decide +kernel
theorem dX6_readArrivals_41 : decode cX6_readArrivals 41 = .ok (.iload_n 3, 1) := by decide +kernel
theorem dX6_readArrivals_42 : decode cX6_readArrivals 42 = .ok (.isub, 1) := by decide +kernel
theorem dX6_readArrivals_43 : decode cX6_readArrivals 43 = .ok (.ireturn, 1) := by decide +kernel
theorem dX6_readArrivals_44 : decode cX6_readArrivals 44 = .ok (.iconst 0, 1) := by decide +kernel
theorem dX6_readArrivals_45 : decode cX6_readArrivals 45 = .ok (.istore 4, 2) := by decide +kernel
theorem dX6_readArrivals_47 : decode cX6_readArrivals 47 = .ok (.iload 4, 2) := by decide +kernel
theorem dX6_readArrivals_49 : decode cX6_readArrivals 49 = .ok (.aload_n 0, 1) := by decide +kernel
theorem dX6_readArrivals_50 : decode cX6_readArrivals 50 = .ok (.getfield 101, 3) := by decide +kernel
theorem dX6_readArrivals_53 : decode cX6_readArrivals 53 = .ok (.if_icmp .ge 25, 3) := by decide +kernel
theorem dX6_readArrivals_56 : decode cX6_readArrivals 56 = .ok (.aload_n 0, 1) := by decide +kernel
theorem dX6_readArrivals_57 : decode cX6_readArrivals 57 = .ok (.getfield 25, 3) := by decide +kernel
theorem dX6_readArrivals_60 : decode cX6_readArrivals 60 = .ok (.iload 4, 2) := by decide +kernel
theorem dX6_readArrivals_62 : decode cX6_readArrivals 62 = .ok (.iaload, 1) := by decide +kernel
theorem dX6_readArrivals_63 : decode cX6_readArrivals 63 = .ok (.sipush 500, 3) := by decide +kernel
theorem dX6_readArrivals_66 : decode cX6_readArrivals 66 = .ok (.if_icmp .le 6, 3) := by decide +kernel
theorem dX6_readArrivals_69 : decode cX6_readArrivals 69 = .ok (.bipush (-2), 2) := by decide +kernel
theorem dX6_readArrivals_71 : decode cX6_readArrivals 71 = .ok (.ireturn, 1) := by decide +kernel
theorem dX6_readArrivals_72 : decode cX6_readArrivals 72 = .ok (.iinc 4 1, 3) := by decide +kernel
theorem dX6_readArrivals_75 : decode cX6_readArrivals 75 = .ok (.goto (-28), 3) := by decide +kernel
theorem dX6_readArrivals_78 : decode cX6_readArrivals 78 = .ok (.iload_n 2, 1) := by decide +kernel
theorem dX6_readArrivals_79 : decode cX6_readArrivals 79 = .ok (.aload_n 0, 1) := by decide +kernel
theorem dX6_readArrivals_80 : decode cX6_readArrivals 80 = .ok (.getfield 101, 3) := by decide +kernel
theorem dX6_readArrivals_83 : decode cX6_readArrivals 83 = .ok (.iadd, 1) := by decide +kernel
theorem dX6_readArrivals_84 : decode cX6_readArrivals 84 = .ok (.bipush 15, 2) := by decide +kernel
theorem dX6_readArrivals_86 : decode cX6_readArrivals 86 = .ok (.if_icmp .le 6, 3) := by decide +kernel
theorem dX6_readArrivals_89 : decode cX6_readArrivals 89 = .ok (.bipush (-3), 2) := by decide +kernel
theorem dX6_readArrivals_91 : decode cX6_readArrivals 91 = .ok (.ireturn, 1) := by decide +kernel
theorem dX6_readArrivals_92 : decode cX6_readArrivals 92 = .ok (.aload_n 0, 1) := by decide +kernel
theorem dX6_readArrivals_93 : decode cX6_readArrivals 93 = .ok (.invokevirtual 40, 3) := by decide +kernel
theorem dX6_readArrivals_96 : decode cX6_readArrivals 96 = .ok (.iconst 0, 1) := by decide +kernel
theorem dX6_readArrivals_97 : decode cX6_readArrivals 97 = .ok (.istore 4, 2) := by decide +kernel
theorem dX6_readArrivals_99 : decode cX6_readArrivals 99 = .ok (.iload 4, 2) := by decide +kernel
theorem dX6_readArrivals_101 : decode cX6_readArrivals 101 = .ok (.aload_n 0, 1) := by decide +kernel
theorem dX6_readArrivals_102 : decode cX6_readArrivals 102 = .ok (.getfield 101, 3) := by decide +kernel
theorem dX6_readArrivals_105 : decode cX6_readArrivals 105 = .ok (.if_icmp .ge 41, 3) := by decide +kernel
theorem dX6_readArrivals_108 : decode cX6_readArrivals 108 = .ok (.aload_n 0, 1) := by decide +kernel
theorem dX6_readArrivals_109 : decode cX6_readArrivals 109 = .ok (.iload_n 1, 1) := by decide +kernel
theorem dX6_readArrivals_110 : decode cX6_readArrivals 110 = .ok (.bipush 12, 2) := by decide +kernel
theorem dX6_readArrivals_112 : decode cX6_readArrivals 112 = .ok (.iload_n 2, 1) := by decide +kernel
theorem dX6_readArrivals_113 : decode cX6_readArrivals 113 = .ok (.iadd, 1) := by decide +kernel
theorem dX6_readArrivals_114 : decode cX6_readArrivals 114 = .ok (.iload 4, 2) := by decide +kernel
theorem dX6_readArrivals_116 : decode cX6_readArrivals 116 = .ok (.iadd, 1) := by decide +kernel
theorem dX6_readArrivals_117 : decode cX6_readArrivals 117 = .ok (.aload_n 0, 1) := by decide +kernel
theorem dX6_readArrivals_118 : decode cX6_readArrivals 118 = .ok (.getfield 25, 3) := by decide +kernel
theorem dX6_readArrivals_121 : decode cX6_readArrivals 121 = .ok (.iload 4, 2) := by decide +kernel
theorem dX6_readArrivals_123 : decode cX6_readArrivals 123 = .ok (.iaload, 1) := by decide +kernel
theorem dX6_readArrivals_124 : decode cX6_readArrivals 124 = .ok (.aload_n 0, 1) := by decide +kernel
theorem dX6_readArrivals_125 : decode cX6_readArrivals 125 = .ok (.iload_n 1, 1) := by decide +kernel
theorem dX6_readArrivals_126 : decode cX6_readArrivals 126 = .ok (.bipush 12, 2) := by decide +kernel
theorem dX6_readArrivals_128 : decode cX6_readArrivals 128 = .ok (.iload_n 2, 1) := by decide +kernel
theorem dX6_readArrivals_129 : decode cX6_readArrivals 129 = .ok (.iadd, 1) := by decide +kernel
theorem dX6_readArrivals_130 : decode cX6_readArrivals 130 = .ok (.iload 4, 2) := by decide +kernel
theorem dX6_readArrivals_132 : decode cX6_readArrivals 132 = .ok (.iadd, 1) := by decide +kernel
theorem dX6_readArrivals_133 : decode cX6_readArrivals 133 = .ok (.invokevirtual 54, 3) := by decide +kernel
theorem dX6_readArrivals_136 : decode cX6_readArrivals 136 = .ok (.isub, 1) := by decide +kernel
theorem dX6_readArrivals_137 : decode cX6_readArrivals 137 = .ok (.invokevirtual 43, 3) := by decide +kernel
theorem dX6_readArrivals_140 : decode cX6_readArrivals 140 = .ok (.iinc 4 1, 3) := by decide +kernel
theorem dX6_readArrivals_143 : decode cX6_readArrivals 143 = .ok (.goto (-44), 3) := by decide +kernel
theorem dX6_readArrivals_146 : decode cX6_readArrivals 146 = .ok (.aload_n 0, 1) := by decide +kernel
theorem dX6_readArrivals_147 : decode cX6_readArrivals 147 = .ok (.getfield 101, 3) := by decide +kernel
theorem dX6_readArrivals_150 : decode cX6_readArrivals 150 = .ok (.ireturn, 1) := by decide +kernel
theorem dX6_undo_0 : decode cX6_undo 0 = .ok (.aload_n 0, 1) := by decide +kernel
theorem dX6_undo_1 : decode cX6_undo 1 = .ok (.getfield 28, 3) := by decide +kernel
theorem dX6_undo_4 : decode cX6_undo 4 = .ok (.ifCond .ne 6, 3) := by decide +kernel
theorem dX6_undo_7 : decode cX6_undo 7 = .ok (.bipush (-5), 2) := by decide +kernel
theorem dX6_undo_9 : decode cX6_undo 9 = .ok (.ireturn, 1) := by decide +kernel
theorem dX6_undo_10 : decode cX6_undo 10 = .ok (.aload_n 0, 1) := by decide +kernel
theorem dX6_undo_11 : decode cX6_undo 11 = .ok (.dup, 1) := by decide +kernel
theorem dX6_undo_12 : decode cX6_undo 12 = .ok (.getfield 28, 3) := by decide +kernel
theorem dX6_undo_15 : decode cX6_undo 15 = .ok (.iconst 1, 1) := by decide +kernel
theorem dX6_undo_16 : decode cX6_undo 16 = .ok (.isub, 1) := by decide +kernel
theorem dX6_undo_17 : decode cX6_undo 17 = .ok (.putfield 28, 3) := by decide +kernel
theorem dX6_undo_20 : decode cX6_undo 20 = .ok (.aload_n 0, 1) := by decide +kernel
theorem dX6_undo_21 : decode cX6_undo 21 = .ok (.getfield 13, 3) := by decide +kernel
theorem dX6_undo_24 : decode cX6_undo 24 = .ok (.aload_n 0, 1) := by decide +kernel
theorem dX6_undo_25 : decode cX6_undo 25 = .ok (.getfield 28, 3) := by decide +kernel
theorem dX6_undo_28 : decode cX6_undo 28 = .ok (.sipush 237, 3) := by decide +kernel
theorem dX6_undo_31 : decode cX6_undo 31 = .ok (.imul, 1) := by decide +kernel
theorem dX6_undo_32 : decode cX6_undo 32 = .ok (.aload_n 0, 1) := by decide +kernel
theorem dX6_undo_33 : decode cX6_undo 33 = .ok (.getfield 7, 3) := by decide +kernel
theorem dX6_undo_36 : decode cX6_undo 36 = .ok (.iconst 0, 1) := by decide +kernel
theorem dX6_undo_37 : decode cX6_undo 37 = .ok (.invokestatic 32, 3) := by decide +kernel
theorem dX6_undo_40 : decode cX6_undo 40 = .ok (.aload_n 0, 1) := by decide +kernel
theorem dX6_undo_41 : decode cX6_undo 41 = .ok (.getfield 28, 3) := by decide +kernel
theorem dX6_undo_44 : decode cX6_undo 44 = .ok (.ireturn, 1) := by decide +kernel
theorem dX6_keep_0 : decode cX6_keep 0 = .ok (.aload_n 0, 1) := by decide +kernel
theorem dX6_keep_1 : decode cX6_keep 1 = .ok (.getfield 7, 3) := by decide +kernel
theorem dX6_keep_4 : decode cX6_keep 4 = .ok (.iconst 0, 1) := by decide +kernel
theorem dX6_keep_5 : decode cX6_keep 5 = .ok (.aload_n 0, 1) := by decide +kernel
theorem dX6_keep_6 : decode cX6_keep 6 = .ok (.getfield 16, 3) := by decide +kernel
theorem dX6_keep_9 : decode cX6_keep 9 = .ok (.iconst 0, 1) := by decide +kernel
theorem dX6_keep_10 : decode cX6_keep 10 = .ok (.invokestatic 32, 3) := by decide +kernel
theorem dX6_keep_13 : decode cX6_keep 13 = .ok (.aload_n 0, 1) := by decide +kernel
theorem dX6_keep_14 : decode cX6_keep 14 = .ok (.iconst 1, 1) := by decide +kernel
theorem dX6_keep_15 : decode cX6_keep 15 = .ok (.putfield 110, 3) := by decide +kernel
theorem dX6_keep_18 : decode cX6_keep 18 = .ok (.aload_n 0, 1) := by decide +kernel
theorem dX6_keep_19 : decode cX6_keep 19 = .ok (.getfield 7, 3) := by decide +kernel
theorem dX6_keep_22 : decode cX6_keep 22 = .ok (.iconst 0, 1) := by decide +kernel
theorem dX6_keep_23 : decode cX6_keep 23 = .ok (.iaload, 1) := by decide +kernel
theorem dX6_keep_24 : decode cX6_keep 24 = .ok (.ireturn, 1) := by decide +kernel
theorem dX6_restore_0 : decode cX6_restore 0 = .ok (.aload_n 0, 1) := by decide +kernel
theorem dX6_restore_1 : decode cX6_restore 1 = .ok (.getfield 110, 3) := by decide +kernel
theorem dX6_restore_4 : decode cX6_restore 4 = .ok (.ifCond .ne 6, 3) := by decide +kernel
theorem dX6_restore_7 : decode cX6_restore 7 = .ok (.bipush (-5), 2) := by decide +kernel
theorem dX6_restore_9 : decode cX6_restore 9 = .ok (.ireturn, 1) := by decide +kernel
theorem dX6_restore_10 : decode cX6_restore 10 = .ok (.aload_n 0, 1) := by decide +kernel
theorem dX6_restore_11 : decode cX6_restore 11 = .ok (.invokevirtual 40, 3) := by decide +kernel
theorem dX6_restore_14 : decode cX6_restore 14 = .ok (.aload_n 0, 1) := by decide +kernel
theorem dX6_restore_15 : decode cX6_restore 15 = .ok (.getfield 16, 3) := by decide +kernel
theorem dX6_restore_18 : decode cX6_restore 18 = .ok (.iconst 0, 1) := by decide +kernel
theorem dX6_restore_19 : decode cX6_restore 19 = .ok (.aload_n 0, 1) := by decide +kernel
theorem dX6_restore_20 : decode cX6_restore 20 = .ok (.getfield 7, 3) := by decide +kernel
theorem dX6_restore_23 : decode cX6_restore 23 = .ok (.iconst 0, 1) := by decide +kernel
theorem dX6_restore_24 : decode cX6_restore 24 = .ok (.invokestatic 32, 3) := by decide +kernel
theorem dX6_restore_27 : decode cX6_restore 27 = .ok (.aload_n 0, 1) := by decide +kernel
theorem dX6_restore_28 : decode cX6_restore 28 = .ok (.getfield 7, 3) := by decide +kernel
theorem dX6_restore_31 : decode cX6_restore 31 = .ok (.iconst 0, 1) := by decide +kernel
theorem dX6_restore_32 : decode cX6_restore 32 = .ok (.iaload, 1) := by decide +kernel
theorem dX6_restore_33 : decode cX6_restore 33 = .ok (.ireturn, 1) := by decide +kernel
theorem dX6_toServe_0 : decode cX6_toServe 0 = .ok (.aload_n 0, 1) := by decide +kernel
theorem dX6_toServe_1 : decode cX6_toServe 1 = .ok (.iload_n 1, 1) := by decide +kernel
theorem dX6_toServe_2 : decode cX6_toServe 2 = .ok (.iconst 0, 1) := by decide +kernel
theorem dX6_toServe_3 : decode cX6_toServe 3 = .ok (.invokevirtual 54, 3) := by decide +kernel
theorem dX6_toServe_6 : decode cX6_toServe 6 = .ok (.istore_n 2, 1) := by decide +kernel
theorem dX6_toServe_7 : decode cX6_toServe 7 = .ok (.aload_n 0, 1) := by decide +kernel
theorem dX6_toServe_8 : decode cX6_toServe 8 = .ok (.iload_n 1, 1) := by decide +kernel
theorem dX6_toServe_9 : decode cX6_toServe 9 = .ok (.invokevirtual 78, 3) := by decide +kernel
theorem dX6_toServe_12 : decode cX6_toServe 12 = .ok (.istore_n 3, 1) := by decide +kernel
theorem dX6_toServe_13 : decode cX6_toServe 13 = .ok (.iload_n 2, 1) := by decide +kernel
theorem dX6_toServe_14 : decode cX6_toServe 14 = .ok (.ifCond .ne 7, 3) := by decide +kernel
theorem dX6_toServe_17 : decode cX6_toServe 17 = .ok (.iconst 0, 1) := by decide +kernel
theorem dX6_toServe_18 : decode cX6_toServe 18 = .ok (.goto 19, 3) := by decide +kernel
theorem dX6_toServe_21 : decode cX6_toServe 21 = .ok (.iload_n 3, 1) := by decide +kernel
theorem dX6_toServe_22 : decode cX6_toServe 22 = .ok (.ifCond .ne 8, 3) := by decide +kernel
theorem dX6_toServe_25 : decode cX6_toServe 25 = .ok (.bipush (-5), 2) := by decide +kernel
theorem dX6_toServe_27 : decode cX6_toServe 27 = .ok (.goto 10, 3) := by decide +kernel
theorem dX6_toServe_30 : decode cX6_toServe 30 = .ok (.iload_n 2, 1) := by decide +kernel
theorem dX6_toServe_31 : decode cX6_toServe 31 = .ok (.iload_n 3, 1) := by decide +kernel
theorem dX6_toServe_32 : decode cX6_toServe 32 = .ok (.iadd, 1) := by decide +kernel
theorem dX6_toServe_33 : decode cX6_toServe 33 = .ok (.iconst 1, 1) := by decide +kernel
theorem dX6_toServe_34 : decode cX6_toServe 34 = .ok (.isub, 1) := by decide +kernel
theorem dX6_toServe_35 : decode cX6_toServe 35 = .ok (.iload_n 3, 1) := by decide +kernel
theorem dX6_toServe_36 : decode cX6_toServe 36 = .ok (.idiv, 1) := by decide +kernel
theorem dX6_toServe_37 : decode cX6_toServe 37 = .ok (.ireturn, 1) := by decide +kernel
theorem dX6_arrivalsAll_0 : decode cX6_arrivalsAll 0 = .ok (.iconst 0, 1) := by decide +kernel
theorem dX6_arrivalsAll_1 : decode cX6_arrivalsAll 1 = .ok (.istore_n 2, 1) := by decide +kernel
theorem dX6_arrivalsAll_2 : decode cX6_arrivalsAll 2 = .ok (.iconst 0, 1) := by decide +kernel
theorem dX6_arrivalsAll_3 : decode cX6_arrivalsAll 3 = .ok (.istore_n 3, 1) := by decide +kernel
theorem dX6_arrivalsAll_4 : decode cX6_arrivalsAll 4 = .ok (.iload_n 3, 1) := by decide +kernel
theorem dX6_arrivalsAll_5 : decode cX6_arrivalsAll 5 = .ok (.bipush 15, 2) := by decide +kernel
theorem dX6_arrivalsAll_7 : decode cX6_arrivalsAll 7 = .ok (.if_icmp .ge 21, 3) := by decide +kernel
theorem dX6_arrivalsAll_10 : decode cX6_arrivalsAll 10 = .ok (.iload_n 2, 1) := by decide +kernel
theorem dX6_arrivalsAll_11 : decode cX6_arrivalsAll 11 = .ok (.aload_n 0, 1) := by decide +kernel
theorem dX6_arrivalsAll_12 : decode cX6_arrivalsAll 12 = .ok (.iload_n 1, 1) := by decide +kernel
theorem dX6_arrivalsAll_13 : decode cX6_arrivalsAll 13 = .ok (.bipush 12, 2) := by decide +kernel
theorem dX6_arrivalsAll_15 : decode cX6_arrivalsAll 15 = .ok (.iload_n 3, 1) := by decide +kernel
theorem dX6_arrivalsAll_16 : decode cX6_arrivalsAll 16 = .ok (.iadd, 1) := by decide +kernel
theorem dX6_arrivalsAll_17 : decode cX6_arrivalsAll 17 = .ok (.invokevirtual 54, 3) := by decide +kernel
theorem dX6_arrivalsAll_20 : decode cX6_arrivalsAll 20 = .ok (.iadd, 1) := by decide +kernel
theorem dX6_arrivalsAll_21 : decode cX6_arrivalsAll 21 = .ok (.istore_n 2, 1) := by decide +kernel
theorem dX6_arrivalsAll_22 : decode cX6_arrivalsAll 22 = .ok (.iinc 3 1, 3) := by decide +kernel
theorem dX6_arrivalsAll_25 : decode cX6_arrivalsAll 25 = .ok (.goto (-21), 3) := by decide +kernel
theorem dX6_arrivalsAll_28 : decode cX6_arrivalsAll 28 = .ok (.iload_n 2, 1) := by decide +kernel
theorem dX6_arrivalsAll_29 : decode cX6_arrivalsAll 29 = .ok (.ireturn, 1) := by decide +kernel
theorem dX6_station_0 : decode cX6_station 0 = .ok (.aload_n 0, 1) := by decide +kernel
theorem dX6_station_1 : decode cX6_station 1 = .ok (.iload_n 1, 1) := by decide +kernel
theorem dX6_station_2 : decode cX6_station 2 = .ok (.invokevirtual 50, 3) := by decide +kernel
theorem dX6_station_5 : decode cX6_station 5 = .ok (.ifCond .ne 5, 3) := by decide +kernel
theorem dX6_station_8 : decode cX6_station 8 = .ok (.iconst (-1), 1) := by decide +kernel
theorem dX6_station_9 : decode cX6_station 9 = .ok (.ireturn, 1) := by decide +kernel
theorem dX6_station_10 : decode cX6_station 10 = .ok (.iload_n 2, 1) := by decide +kernel
theorem dX6_station_11 : decode cX6_station 11 = .ok (.tableswitch 76 0 7 #[45, 45, 45, 45, 52, 58, 64, 70], 45) := by decide +kernel
theorem dX6_station_56 : decode cX6_station 56 = .ok (.aload_n 0, 1) := by decide +kernel
theorem dX6_station_57 : decode cX6_station 57 = .ok (.iload_n 1, 1) := by decide +kernel
theorem dX6_station_58 : decode cX6_station 58 = .ok (.iload_n 2, 1) := by decide +kernel
theorem dX6_station_59 : decode cX6_station 59 = .ok (.invokevirtual 54, 3) := by decide +kernel
theorem dX6_station_62 : decode cX6_station 62 = .ok (.ireturn, 1) := by decide +kernel
theorem dX6_station_63 : decode cX6_station 63 = .ok (.aload_n 0, 1) := by decide +kernel
theorem dX6_station_64 : decode cX6_station 64 = .ok (.iload_n 1, 1) := by decide +kernel
theorem dX6_station_65 : decode cX6_station 65 = .ok (.invokevirtual 71, 3) := by decide +kernel
theorem dX6_station_68 : decode cX6_station 68 = .ok (.ireturn, 1) := by decide +kernel
theorem dX6_station_69 : decode cX6_station 69 = .ok (.aload_n 0, 1) := by decide +kernel
theorem dX6_station_70 : decode cX6_station 70 = .ok (.iload_n 1, 1) := by decide +kernel
theorem dX6_station_71 : decode cX6_station 71 = .ok (.invokevirtual 78, 3) := by decide +kernel
theorem dX6_station_74 : decode cX6_station 74 = .ok (.ireturn, 1) := by decide +kernel
theorem dX6_station_75 : decode cX6_station 75 = .ok (.aload_n 0, 1) := by decide +kernel
theorem dX6_station_76 : decode cX6_station 76 = .ok (.iload_n 1, 1) := by decide +kernel
theorem dX6_station_77 : decode cX6_station 77 = .ok (.invokevirtual 114, 3) := by decide +kernel
theorem dX6_station_80 : decode cX6_station 80 = .ok (.ireturn, 1) := by decide +kernel
theorem dX6_station_81 : decode cX6_station 81 = .ok (.aload_n 0, 1) := by decide +kernel
theorem dX6_station_82 : decode cX6_station 82 = .ok (.iload_n 1, 1) := by decide +kernel
theorem dX6_station_83 : decode cX6_station 83 = .ok (.invokevirtual 117, 3) := by decide +kernel
theorem dX6_station_86 : decode cX6_station 86 = .ok (.ireturn, 1) := by decide +kernel
theorem dX6_station_87 : decode cX6_station 87 = .ok (.bipush (-2), 2) := by decide +kernel
theorem dX6_station_89 : decode cX6_station 89 = .ok (.ireturn, 1) := by decide +kernel
theorem dX6_papers_0 : decode cX6_papers 0 = .ok (.aload_n 0, 1) := by decide +kernel
theorem dX6_papers_1 : decode cX6_papers 1 = .ok (.iload_n 1, 1) := by decide +kernel
theorem dX6_papers_2 : decode cX6_papers 2 = .ok (.invokevirtual 50, 3) := by decide +kernel
theorem dX6_papers_5 : decode cX6_papers 5 = .ok (.ifCond .ne 5, 3) := by decide +kernel
theorem dX6_papers_8 : decode cX6_papers 8 = .ok (.iconst (-1), 1) := by decide +kernel
theorem dX6_papers_9 : decode cX6_papers 9 = .ok (.ireturn, 1) := by decide +kernel
theorem dX6_papers_10 : decode cX6_papers 10 = .ok (.iload_n 2, 1) := by decide +kernel
theorem dX6_papers_11 : decode cX6_papers 11 = .ok (.iconst 0, 1) := by decide +kernel
theorem dX6_papers_12 : decode cX6_papers 12 = .ok (.bipush 8, 2) := by decide +kernel
theorem dX6_papers_14 : decode cX6_papers 14 = .ok (.invokestatic 36, 3) := by decide +kernel
theorem dX6_papers_17 : decode cX6_papers 17 = .ok (.ifCond .ne 6, 3) := by decide +kernel
theorem dX6_papers_20 : decode cX6_papers 20 = .ok (.bipush (-2), 2) := by decide +kernel
theorem dX6_papers_22 : decode cX6_papers 22 = .ok (.ireturn, 1) := by decide +kernel
theorem dX6_papers_23 : decode cX6_papers 23 = .ok (.aload_n 0, 1) := by decide +kernel
theorem dX6_papers_24 : decode cX6_papers 24 = .ok (.iload_n 1, 1) := by decide +kernel
theorem dX6_papers_25 : decode cX6_papers 25 = .ok (.bipush 10, 2) := by decide +kernel
theorem dX6_papers_27 : decode cX6_papers 27 = .ok (.invokevirtual 54, 3) := by decide +kernel
theorem dX6_papers_30 : decode cX6_papers 30 = .ok (.iconst (-1), 1) := by decide +kernel
theorem dX6_papers_31 : decode cX6_papers 31 = .ok (.if_icmp .ne 7, 3) := by decide +kernel
theorem dX6_papers_34 : decode cX6_papers 34 = .ok (.iconst 1, 1) := by decide +kernel
theorem dX6_papers_35 : decode cX6_papers 35 = .ok (.goto 4, 3) := by decide +kernel
theorem dX6_papers_38 : decode cX6_papers 38 = .ok (.iconst 0, 1) := by decide +kernel
theorem dX6_papers_39 : decode cX6_papers 39 = .ok (.istore_n 3, 1) := by decide +kernel
theorem dX6_papers_40 : decode cX6_papers 40 = .ok (.iload_n 3, 1) := by decide +kernel
theorem dX6_papers_41 : decode cX6_papers 41 = .ok (.ifCond .eq 18, 3) := by decide +kernel
theorem dX6_papers_44 : decode cX6_papers 44 = .ok (.iload_n 2, 1) := by decide +kernel
theorem dX6_papers_45 : decode cX6_papers 45 = .ok (.bipush 6, 2) := by decide +kernel
theorem dX6_papers_47 : decode cX6_papers 47 = .ok (.if_icmp .eq 9, 3) := by decide +kernel
theorem dX6_papers_50 : decode cX6_papers 50 = .ok (.iload_n 2, 1) := by decide +kernel
theorem dX6_papers_51 : decode cX6_papers 51 = .ok (.bipush 7, 2) := by decide +kernel
theorem dX6_papers_53 : decode cX6_papers 53 = .ok (.if_icmp .ne 6, 3) := by decide +kernel
theorem dX6_papers_56 : decode cX6_papers 56 = .ok (.bipush (-5), 2) := by decide +kernel
theorem dX6_papers_58 : decode cX6_papers 58 = .ok (.ireturn, 1) := by decide +kernel
theorem dX6_papers_59 : decode cX6_papers 59 = .ok (.iload_n 2, 1) := by decide +kernel
theorem dX6_papers_60 : decode cX6_papers 60 = .ok (.bipush 7, 2) := by decide +kernel
theorem dX6_papers_62 : decode cX6_papers 62 = .ok (.if_icmp .ge 14, 3) := by decide +kernel
theorem dX6_papers_65 : decode cX6_papers 65 = .ok (.aload_n 0, 1) := by decide +kernel
theorem dX6_papers_66 : decode cX6_papers 66 = .ok (.iload_n 1, 1) := by decide +kernel
theorem dX6_papers_67 : decode cX6_papers 67 = .ok (.iconst 4, 1) := by decide +kernel
theorem dX6_papers_68 : decode cX6_papers 68 = .ok (.iload_n 2, 1) := by decide +kernel
theorem dX6_papers_69 : decode cX6_papers 69 = .ok (.iadd, 1) := by decide +kernel
theorem dX6_papers_70 : decode cX6_papers 70 = .ok (.invokevirtual 54, 3) := by decide +kernel
theorem dX6_papers_73 : decode cX6_papers 73 = .ok (.goto 37, 3) := by decide +kernel
theorem dX6_papers_76 : decode cX6_papers 76 = .ok (.iload_n 2, 1) := by decide +kernel
theorem dX6_papers_77 : decode cX6_papers 77 = .ok (.bipush 7, 2) := by decide +kernel
theorem dX6_papers_79 : decode cX6_papers 79 = .ok (.if_icmp .ne 24, 3) := by decide +kernel
theorem dX6_papers_82 : decode cX6_papers 82 = .ok (.aload_n 0, 1) := by decide +kernel
theorem dX6_papers_83 : decode cX6_papers 83 = .ok (.iload_n 1, 1) := by decide +kernel
theorem dX6_papers_84 : decode cX6_papers 84 = .ok (.bipush 10, 2) := by decide +kernel
theorem dX6_papers_86 : decode cX6_papers 86 = .ok (.invokevirtual 54, 3) := by decide +kernel
theorem dX6_papers_89 : decode cX6_papers 89 = .ok (.aload_n 0, 1) := by decide +kernel
theorem dX6_papers_90 : decode cX6_papers 90 = .ok (.iload_n 1, 1) := by decide +kernel
theorem dX6_papers_91 : decode cX6_papers 91 = .ok (.bipush 9, 2) := by decide +kernel
theorem dX6_papers_93 : decode cX6_papers 93 = .ok (.invokevirtual 54, 3) := by decide +kernel
theorem dX6_papers_96 : decode cX6_papers 96 = .ok (.isub, 1) := by decide +kernel
theorem dX6_papers_97 : decode cX6_papers 97 = .ok (.ldc 120, 2) := by decide +kernel
theorem dX6_papers_99 : decode cX6_papers 99 = .ok (.iadd, 1) := by decide +kernel
theorem dX6_papers_100 : decode cX6_papers 100 = .ok (.goto 10, 3) := by decide +kernel
theorem dX6_papers_103 : decode cX6_papers 103 = .ok (.aload_n 0, 1) := by decide +kernel
theorem dX6_papers_104 : decode cX6_papers 104 = .ok (.iload_n 1, 1) := by decide +kernel
theorem dX6_papers_105 : decode cX6_papers 105 = .ok (.bipush 11, 2) := by decide +kernel
theorem dX6_papers_107 : decode cX6_papers 107 = .ok (.invokevirtual 54, 3) := by decide +kernel
theorem dX6_papers_110 : decode cX6_papers 110 = .ok (.ireturn, 1) := by decide +kernel
theorem dX6_clerk_0 : decode cX6_clerk 0 = .ok (.aload_n 0, 1) := by decide +kernel
theorem dX6_clerk_1 : decode cX6_clerk 1 = .ok (.iload_n 1, 1) := by decide +kernel
theorem dX6_clerk_2 : decode cX6_clerk 2 = .ok (.invokevirtual 68, 3) := by decide +kernel
theorem dX6_clerk_5 : decode cX6_clerk 5 = .ok (.ifCond .ne 5, 3) := by decide +kernel
theorem dX6_clerk_8 : decode cX6_clerk 8 = .ok (.iconst (-1), 1) := by decide +kernel
theorem dX6_clerk_9 : decode cX6_clerk 9 = .ok (.ireturn, 1) := by decide +kernel
theorem dX6_clerk_10 : decode cX6_clerk 10 = .ok (.iload_n 2, 1) := by decide +kernel
theorem dX6_clerk_11 : decode cX6_clerk 11 = .ok (.tableswitch 104 0 6 #[41, 41, 48, 41, 41, 70, 85], 41) := by decide +kernel
theorem dX6_clerk_52 : decode cX6_clerk 52 = .ok (.aload_n 0, 1) := by decide +kernel
theorem dX6_clerk_53 : decode cX6_clerk 53 = .ok (.iload_n 1, 1) := by decide +kernel
theorem dX6_clerk_54 : decode cX6_clerk 54 = .ok (.iload_n 2, 1) := by decide +kernel
theorem dX6_clerk_55 : decode cX6_clerk 55 = .ok (.invokevirtual 58, 3) := by decide +kernel
theorem dX6_clerk_58 : decode cX6_clerk 58 = .ok (.ireturn, 1) := by decide +kernel
theorem dX6_clerk_59 : decode cX6_clerk 59 = .ok (.aload_n 0, 1) := by decide +kernel
theorem dX6_clerk_60 : decode cX6_clerk 60 = .ok (.iload_n 1, 1) := by decide +kernel
theorem dX6_clerk_61 : decode cX6_clerk 61 = .ok (.iconst 2, 1) := by decide +kernel
theorem dX6_clerk_62 : decode cX6_clerk 62 = .ok (.invokevirtual 58, 3) := by decide +kernel
theorem dX6_clerk_65 : decode cX6_clerk 65 = .ok (.iconst (-1), 1) := by decide +kernel
theorem dX6_clerk_66 : decode cX6_clerk 66 = .ok (.if_icmp .ne 8, 3) := by decide +kernel
theorem dX6_clerk_69 : decode cX6_clerk 69 = .ok (.bipush (-5), 2) := by decide +kernel
theorem dX6_clerk_71 : decode cX6_clerk 71 = .ok (.goto 9, 3) := by decide +kernel
theorem dX6_clerk_74 : decode cX6_clerk 74 = .ok (.aload_n 0, 1) := by decide +kernel
theorem dX6_clerk_75 : decode cX6_clerk 75 = .ok (.iload_n 1, 1) := by decide +kernel
theorem dX6_clerk_76 : decode cX6_clerk 76 = .ok (.iconst 2, 1) := by decide +kernel
theorem dX6_clerk_77 : decode cX6_clerk 77 = .ok (.invokevirtual 58, 3) := by decide +kernel
theorem dX6_clerk_80 : decode cX6_clerk 80 = .ok (.ireturn, 1) := by decide +kernel
theorem dX6_clerk_81 : decode cX6_clerk 81 = .ok (.aload_n 0, 1) := by decide +kernel
theorem dX6_clerk_82 : decode cX6_clerk 82 = .ok (.iload_n 1, 1) := by decide +kernel
theorem dX6_clerk_83 : decode cX6_clerk 83 = .ok (.iconst 5, 1) := by decide +kernel
theorem dX6_clerk_84 : decode cX6_clerk 84 = .ok (.invokevirtual 58, 3) := by decide +kernel
theorem dX6_clerk_87 : decode cX6_clerk 87 = .ok (.ifCond .le 7, 3) := by decide +kernel
theorem dX6_clerk_90 : decode cX6_clerk 90 = .ok (.iconst 1, 1) := by decide +kernel
theorem dX6_clerk_91 : decode cX6_clerk 91 = .ok (.goto 4, 3) := by decide +kernel
theorem dX6_clerk_94 : decode cX6_clerk 94 = .ok (.iconst 0, 1) := by decide +kernel
theorem dX6_clerk_95 : decode cX6_clerk 95 = .ok (.ireturn, 1) := by decide +kernel
theorem dX6_clerk_96 : decode cX6_clerk 96 = .ok (.aload_n 0, 1) := by decide +kernel
theorem dX6_clerk_97 : decode cX6_clerk 97 = .ok (.iload_n 1, 1) := by decide +kernel
theorem dX6_clerk_98 : decode cX6_clerk 98 = .ok (.invokevirtual 61, 3) := by decide +kernel
theorem dX6_clerk_101 : decode cX6_clerk 101 = .ok (.ifCond .eq 11, 3) := by decide +kernel
theorem dX6_clerk_104 : decode cX6_clerk 104 = .ok (.aload_n 0, 1) := by decide +kernel
theorem dX6_clerk_105 : decode cX6_clerk 105 = .ok (.iload_n 1, 1) := by decide +kernel
theorem dX6_clerk_106 : decode cX6_clerk 106 = .ok (.invokevirtual 64, 3) := by decide +kernel
theorem dX6_clerk_109 : decode cX6_clerk 109 = .ok (.goto 5, 3) := by decide +kernel
theorem dX6_clerk_112 : decode cX6_clerk 112 = .ok (.bipush (-5), 2) := by decide +kernel
theorem dX6_clerk_114 : decode cX6_clerk 114 = .ok (.ireturn, 1) := by decide +kernel
theorem dX6_clerk_115 : decode cX6_clerk 115 = .ok (.bipush (-2), 2) := by decide +kernel
theorem dX6_clerk_117 : decode cX6_clerk 117 = .ok (.ireturn, 1) := by decide +kernel
theorem dX6_arrivals_0 : decode cX6_arrivals 0 = .ok (.aload_n 0, 1) := by decide +kernel
theorem dX6_arrivals_1 : decode cX6_arrivals 1 = .ok (.iload_n 1, 1) := by decide +kernel
theorem dX6_arrivals_2 : decode cX6_arrivals 2 = .ok (.invokevirtual 50, 3) := by decide +kernel
theorem dX6_arrivals_5 : decode cX6_arrivals 5 = .ok (.ifCond .ne 7, 3) := by decide +kernel
theorem dX6_arrivals_8 : decode cX6_arrivals 8 = .ok (.iconst (-1), 1) := by decide +kernel
theorem dX6_arrivals_9 : decode cX6_arrivals 9 = .ok (.goto 27, 3) := by decide +kernel
theorem dX6_arrivals_12 : decode cX6_arrivals 12 = .ok (.iload_n 2, 1) := by decide +kernel
theorem dX6_arrivals_13 : decode cX6_arrivals 13 = .ok (.iconst 0, 1) := by decide +kernel
theorem dX6_arrivals_14 : decode cX6_arrivals 14 = .ok (.bipush 14, 2) := by decide +kernel
theorem dX6_arrivals_16 : decode cX6_arrivals 16 = .ok (.invokestatic 36, 3) := by decide +kernel
theorem dX6_arrivals_19 : decode cX6_arrivals 19 = .ok (.ifCond .ne 8, 3) := by decide +kernel
theorem dX6_arrivals_22 : decode cX6_arrivals 22 = .ok (.bipush (-2), 2) := by decide +kernel
theorem dX6_arrivals_24 : decode cX6_arrivals 24 = .ok (.goto 12, 3) := by decide +kernel
theorem dX6_arrivals_27 : decode cX6_arrivals 27 = .ok (.aload_n 0, 1) := by decide +kernel
theorem dX6_arrivals_28 : decode cX6_arrivals 28 = .ok (.iload_n 1, 1) := by decide +kernel
theorem dX6_arrivals_29 : decode cX6_arrivals 29 = .ok (.bipush 12, 2) := by decide +kernel
theorem dX6_arrivals_31 : decode cX6_arrivals 31 = .ok (.iload_n 2, 1) := by decide +kernel
theorem dX6_arrivals_32 : decode cX6_arrivals 32 = .ok (.iadd, 1) := by decide +kernel
theorem dX6_arrivals_33 : decode cX6_arrivals 33 = .ok (.invokevirtual 54, 3) := by decide +kernel
theorem dX6_arrivals_36 : decode cX6_arrivals 36 = .ok (.ireturn, 1) := by decide +kernel
theorem dX6_free_0 : decode cX6_free 0 = .ok (.iload_n 1, 1) := by decide +kernel
theorem dX6_free_1 : decode cX6_free 1 = .ok (.ifCond .ge 8, 3) := by decide +kernel
theorem dX6_free_4 : decode cX6_free 4 = .ok (.bipush (-2), 2) := by decide +kernel
theorem dX6_free_6 : decode cX6_free 6 = .ok (.goto 8, 3) := by decide +kernel
theorem dX6_free_9 : decode cX6_free 9 = .ok (.aload_n 0, 1) := by decide +kernel
theorem dX6_free_10 : decode cX6_free 10 = .ok (.iload_n 1, 1) := by decide +kernel
theorem dX6_free_11 : decode cX6_free 11 = .ok (.invokevirtual 81, 3) := by decide +kernel
theorem dX6_free_14 : decode cX6_free 14 = .ok (.ireturn, 1) := by decide +kernel
theorem dX6_busiest_0 : decode cX6_busiest 0 = .ok (.iload_n 1, 1) := by decide +kernel
theorem dX6_busiest_1 : decode cX6_busiest 1 = .ok (.ifCond .ge 6, 3) := by decide +kernel
theorem dX6_busiest_4 : decode cX6_busiest 4 = .ok (.bipush (-2), 2) := by decide +kernel
theorem dX6_busiest_6 : decode cX6_busiest 6 = .ok (.ireturn, 1) := by decide +kernel
theorem dX6_busiest_7 : decode cX6_busiest 7 = .ok (.iconst 0, 1) := by decide +kernel
theorem dX6_busiest_8 : decode cX6_busiest 8 = .ok (.istore_n 2, 1) := by decide +kernel
theorem dX6_busiest_9 : decode cX6_busiest 9 = .ok (.iload_n 2, 1) := by decide +kernel
theorem dX6_busiest_10 : decode cX6_busiest 10 = .ok (.aload_n 0, 1) := by decide +kernel
theorem dX6_busiest_11 : decode cX6_busiest 11 = .ok (.getfield 7, 3) := by decide +kernel
theorem dX6_busiest_14 : decode cX6_busiest 14 = .ok (.iconst 1, 1) := by decide +kernel
theorem dX6_busiest_15 : decode cX6_busiest 15 = .ok (.iaload, 1) := by decide +kernel
theorem dX6_busiest_16 : decode cX6_busiest 16 = .ok (.if_icmp .ge 84, 3) := by decide +kernel
theorem dX6_busiest_19 : decode cX6_busiest 19 = .ok (.iconst 0, 1) := by decide +kernel
theorem dX6_busiest_20 : decode cX6_busiest 20 = .ok (.istore_n 3, 1) := by decide +kernel
theorem dX6_busiest_21 : decode cX6_busiest 21 = .ok (.iconst 0, 1) := by decide +kernel
theorem dX6_busiest_22 : decode cX6_busiest 22 = .ok (.istore 4, 2) := by decide +kernel
theorem dX6_busiest_24 : decode cX6_busiest 24 = .ok (.iload 4, 2) := by decide +kernel
theorem dX6_busiest_26 : decode cX6_busiest 26 = .ok (.aload_n 0, 1) := by decide +kernel
theorem dX6_busiest_27 : decode cX6_busiest 27 = .ok (.getfield 7, 3) := by decide +kernel
theorem dX6_busiest_30 : decode cX6_busiest 30 = .ok (.iconst 1, 1) := by decide +kernel
theorem dX6_busiest_31 : decode cX6_busiest 31 = .ok (.iaload, 1) := by decide +kernel
theorem dX6_busiest_32 : decode cX6_busiest 32 = .ok (.if_icmp .ge 55, 3) := by decide +kernel
theorem dX6_busiest_35 : decode cX6_busiest 35 = .ok (.iload_n 3, 1) := by decide +kernel
theorem dX6_busiest_36 : decode cX6_busiest 36 = .ok (.aload_n 0, 1) := by decide +kernel
theorem dX6_busiest_37 : decode cX6_busiest 37 = .ok (.iload 4, 2) := by decide +kernel
theorem dX6_busiest_39 : decode cX6_busiest 39 = .ok (.iconst 0, 1) := by decide +kernel
theorem dX6_busiest_40 : decode cX6_busiest 40 = .ok (.invokevirtual 54, 3) := by decide +kernel
theorem dX6_busiest_43 : decode cX6_busiest 43 = .ok (.aload_n 0, 1) := by decide +kernel
theorem dX6_busiest_44 : decode cX6_busiest 44 = .ok (.iload_n 2, 1) := by decide +kernel
theorem dX6_busiest_45 : decode cX6_busiest 45 = .ok (.iconst 0, 1) := by decide +kernel
theorem dX6_busiest_46 : decode cX6_busiest 46 = .ok (.invokevirtual 54, 3) := by decide +kernel
theorem dX6_busiest_49 : decode cX6_busiest 49 = .ok (.if_icmp .gt 25, 3) := by decide +kernel
theorem dX6_busiest_52 : decode cX6_busiest 52 = .ok (.aload_n 0, 1) := by decide +kernel
theorem dX6_busiest_53 : decode cX6_busiest 53 = .ok (.iload 4, 2) := by decide +kernel
theorem dX6_busiest_55 : decode cX6_busiest 55 = .ok (.iconst 0, 1) := by decide +kernel
theorem dX6_busiest_56 : decode cX6_busiest 56 = .ok (.invokevirtual 54, 3) := by decide +kernel
theorem dX6_busiest_59 : decode cX6_busiest 59 = .ok (.aload_n 0, 1) := by decide +kernel
theorem dX6_busiest_60 : decode cX6_busiest 60 = .ok (.iload_n 2, 1) := by decide +kernel
theorem dX6_busiest_61 : decode cX6_busiest 61 = .ok (.iconst 0, 1) := by decide +kernel
theorem dX6_busiest_62 : decode cX6_busiest 62 = .ok (.invokevirtual 54, 3) := by decide +kernel
theorem dX6_busiest_65 : decode cX6_busiest 65 = .ok (.if_icmp .ne 13, 3) := by decide +kernel
theorem dX6_busiest_68 : decode cX6_busiest 68 = .ok (.iload 4, 2) := by decide +kernel
theorem dX6_busiest_70 : decode cX6_busiest 70 = .ok (.iload_n 2, 1) := by decide +kernel
theorem dX6_busiest_71 : decode cX6_busiest 71 = .ok (.if_icmp .ge 7, 3) := by decide +kernel
theorem dX6_busiest_74 : decode cX6_busiest 74 = .ok (.iconst 1, 1) := by decide +kernel
theorem dX6_busiest_75 : decode cX6_busiest 75 = .ok (.goto 4, 3) := by decide +kernel
theorem dX6_busiest_78 : decode cX6_busiest 78 = .ok (.iconst 0, 1) := by decide +kernel
theorem dX6_busiest_79 : decode cX6_busiest 79 = .ok (.iadd, 1) := by decide +kernel
theorem dX6_busiest_80 : decode cX6_busiest 80 = .ok (.istore_n 3, 1) := by decide +kernel
theorem dX6_busiest_81 : decode cX6_busiest 81 = .ok (.iinc 4 1, 3) := by decide +kernel
theorem dX6_busiest_84 : decode cX6_busiest 84 = .ok (.goto (-60), 3) := by decide +kernel
theorem dX6_busiest_87 : decode cX6_busiest 87 = .ok (.iload_n 3, 1) := by decide +kernel
theorem dX6_busiest_88 : decode cX6_busiest 88 = .ok (.iload_n 1, 1) := by decide +kernel
theorem dX6_busiest_89 : decode cX6_busiest 89 = .ok (.if_icmp .ne 5, 3) := by decide +kernel
theorem dX6_busiest_92 : decode cX6_busiest 92 = .ok (.iload_n 2, 1) := by decide +kernel
theorem dX6_busiest_93 : decode cX6_busiest 93 = .ok (.ireturn, 1) := by decide +kernel
theorem dX6_busiest_94 : decode cX6_busiest 94 = .ok (.iinc 2 1, 3) := by decide +kernel
theorem dX6_busiest_97 : decode cX6_busiest 97 = .ok (.goto (-88), 3) := by decide +kernel
theorem dX6_busiest_100 : decode cX6_busiest 100 = .ok (.bipush (-5), 2) := by decide +kernel
theorem dX6_busiest_102 : decode cX6_busiest 102 = .ok (.ireturn, 1) := by decide +kernel
theorem dX6_queueIn_0 : decode cX6_queueIn 0 = .ok (.aload_n 0, 1) := by decide +kernel
theorem dX6_queueIn_1 : decode cX6_queueIn 1 = .ok (.iload_n 1, 1) := by decide +kernel
theorem dX6_queueIn_2 : decode cX6_queueIn 2 = .ok (.invokevirtual 50, 3) := by decide +kernel
theorem dX6_queueIn_5 : decode cX6_queueIn 5 = .ok (.ifCond .ne 5, 3) := by decide +kernel
theorem dX6_queueIn_8 : decode cX6_queueIn 8 = .ok (.iconst (-1), 1) := by decide +kernel
theorem dX6_queueIn_9 : decode cX6_queueIn 9 = .ok (.ireturn, 1) := by decide +kernel
theorem dX6_queueIn_10 : decode cX6_queueIn 10 = .ok (.iload_n 2, 1) := by decide +kernel
theorem dX6_queueIn_11 : decode cX6_queueIn 11 = .ok (.iconst 0, 1) := by decide +kernel
theorem dX6_queueIn_12 : decode cX6_queueIn 12 = .ok (.bipush 18, 2) := by decide +kernel
theorem dX6_queueIn_14 : decode cX6_queueIn 14 = .ok (.invokestatic 36, 3) := by decide +kernel
theorem dX6_queueIn_17 : decode cX6_queueIn 17 = .ok (.ifCond .ne 6, 3) := by decide +kernel
theorem dX6_queueIn_20 : decode cX6_queueIn 20 = .ok (.bipush (-2), 2) := by decide +kernel
theorem dX6_queueIn_22 : decode cX6_queueIn 22 = .ok (.ireturn, 1) := by decide +kernel
theorem dX6_queueIn_23 : decode cX6_queueIn 23 = .ok (.aload_n 0, 1) := by decide +kernel
theorem dX6_queueIn_24 : decode cX6_queueIn 24 = .ok (.getfield 7, 3) := by decide +kernel
theorem dX6_queueIn_27 : decode cX6_queueIn 27 = .ok (.iconst 0, 1) := by decide +kernel
theorem dX6_queueIn_28 : decode cX6_queueIn 28 = .ok (.iaload, 1) := by decide +kernel
theorem dX6_queueIn_29 : decode cX6_queueIn 29 = .ok (.iload_n 2, 1) := by decide +kernel
theorem dX6_queueIn_30 : decode cX6_queueIn 30 = .ok (.iadd, 1) := by decide +kernel
theorem dX6_queueIn_31 : decode cX6_queueIn 31 = .ok (.bipush 18, 2) := by decide +kernel
theorem dX6_queueIn_33 : decode cX6_queueIn 33 = .ok (.if_icmp .le 6, 3) := by decide +kernel
theorem dX6_queueIn_36 : decode cX6_queueIn 36 = .ok (.bipush (-4), 2) := by decide +kernel
theorem dX6_queueIn_38 : decode cX6_queueIn 38 = .ok (.ireturn, 1) := by decide +kernel
theorem dX6_queueIn_39 : decode cX6_queueIn 39 = .ok (.aload_n 0, 1) := by decide +kernel
theorem dX6_queueIn_40 : decode cX6_queueIn 40 = .ok (.getfield 7, 3) := by decide +kernel
theorem dX6_queueIn_43 : decode cX6_queueIn 43 = .ok (.iconst 0, 1) := by decide +kernel
theorem dX6_queueIn_44 : decode cX6_queueIn 44 = .ok (.aload_n 0, 1) := by decide +kernel
theorem dX6_queueIn_45 : decode cX6_queueIn 45 = .ok (.getfield 19, 3) := by decide +kernel
theorem dX6_queueIn_48 : decode cX6_queueIn 48 = .ok (.iconst 0, 1) := by decide +kernel
theorem dX6_queueIn_49 : decode cX6_queueIn 49 = .ok (.invokestatic 32, 3) := by decide +kernel
theorem dX6_queueIn_52 : decode cX6_queueIn 52 = .ok (.aload_n 0, 1) := by decide +kernel
theorem dX6_queueIn_53 : decode cX6_queueIn 53 = .ok (.iload_n 2, 1) := by decide +kernel
theorem dX6_queueIn_54 : decode cX6_queueIn 54 = .ok (.invokevirtual 94, 3) := by decide +kernel
theorem dX6_queueIn_57 : decode cX6_queueIn 57 = .ok (.istore_n 3, 1) := by decide +kernel
theorem dX6_queueIn_58 : decode cX6_queueIn 58 = .ok (.aload_n 0, 1) := by decide +kernel
theorem dX6_queueIn_59 : decode cX6_queueIn 59 = .ok (.iload_n 1, 1) := by decide +kernel
theorem dX6_queueIn_60 : decode cX6_queueIn 60 = .ok (.iconst 0, 1) := by decide +kernel
theorem dX6_queueIn_61 : decode cX6_queueIn 61 = .ok (.invokevirtual 54, 3) := by decide +kernel
theorem dX6_queueIn_64 : decode cX6_queueIn 64 = .ok (.istore 4, 2) := by decide +kernel
theorem dX6_queueIn_66 : decode cX6_queueIn 66 = .ok (.aload_n 0, 1) := by decide +kernel
theorem dX6_queueIn_67 : decode cX6_queueIn 67 = .ok (.getfield 19, 3) := by decide +kernel
theorem dX6_queueIn_70 : decode cX6_queueIn 70 = .ok (.iconst 0, 1) := by decide +kernel
theorem dX6_queueIn_71 : decode cX6_queueIn 71 = .ok (.aload_n 0, 1) := by decide +kernel
theorem dX6_queueIn_72 : decode cX6_queueIn 72 = .ok (.getfield 7, 3) := by decide +kernel
theorem dX6_queueIn_75 : decode cX6_queueIn 75 = .ok (.iconst 0, 1) := by decide +kernel
theorem dX6_queueIn_76 : decode cX6_queueIn 76 = .ok (.invokestatic 32, 3) := by decide +kernel
theorem dX6_queueIn_79 : decode cX6_queueIn 79 = .ok (.iload 4, 2) := by decide +kernel
theorem dX6_queueIn_81 : decode cX6_queueIn 81 = .ok (.ireturn, 1) := by decide +kernel
theorem dX6_lacks_0 : decode cX6_lacks 0 = .ok (.aload_n 0, 1) := by decide +kernel
theorem dX6_lacks_1 : decode cX6_lacks 1 = .ok (.iload_n 1, 1) := by decide +kernel
theorem dX6_lacks_2 : decode cX6_lacks 2 = .ok (.invokevirtual 50, 3) := by decide +kernel
theorem dX6_lacks_5 : decode cX6_lacks 5 = .ok (.ifCond .ne 5, 3) := by decide +kernel
theorem dX6_lacks_8 : decode cX6_lacks 8 = .ok (.iconst (-1), 1) := by decide +kernel
theorem dX6_lacks_9 : decode cX6_lacks 9 = .ok (.ireturn, 1) := by decide +kernel
theorem dX6_lacks_10 : decode cX6_lacks 10 = .ok (.aload_n 0, 1) := by decide +kernel
theorem dX6_lacks_11 : decode cX6_lacks 11 = .ok (.getfield 7, 3) := by decide +kernel
theorem dX6_lacks_14 : decode cX6_lacks 14 = .ok (.iconst 0, 1) := by decide +kernel
theorem dX6_lacks_15 : decode cX6_lacks 15 = .ok (.aload_n 0, 1) := by decide +kernel
theorem dX6_lacks_16 : decode cX6_lacks 16 = .ok (.getfield 19, 3) := by decide +kernel
theorem dX6_lacks_19 : decode cX6_lacks 19 = .ok (.iconst 0, 1) := by decide +kernel
theorem dX6_lacks_20 : decode cX6_lacks 20 = .ok (.invokestatic 32, 3) := by decide +kernel
theorem dX6_lacks_23 : decode cX6_lacks 23 = .ok (.aload_n 0, 1) := by decide +kernel
theorem dX6_lacks_24 : decode cX6_lacks 24 = .ok (.iload_n 1, 1) := by decide +kernel
theorem dX6_lacks_25 : decode cX6_lacks 25 = .ok (.iconst 4, 1) := by decide +kernel
theorem dX6_lacks_26 : decode cX6_lacks 26 = .ok (.invokevirtual 54, 3) := by decide +kernel
theorem dX6_lacks_29 : decode cX6_lacks 29 = .ok (.istore_n 2, 1) := by decide +kernel
theorem dX6_lacks_30 : decode cX6_lacks 30 = .ok (.aload_n 0, 1) := by decide +kernel
theorem dX6_lacks_31 : decode cX6_lacks 31 = .ok (.iload_n 1, 1) := by decide +kernel
theorem dX6_lacks_32 : decode cX6_lacks 32 = .ok (.iconst 2, 1) := by decide +kernel
theorem dX6_lacks_33 : decode cX6_lacks 33 = .ok (.invokevirtual 54, 3) := by decide +kernel
theorem dX6_lacks_36 : decode cX6_lacks 36 = .ok (.istore_n 3, 1) := by decide +kernel
theorem dX6_lacks_37 : decode cX6_lacks 37 = .ok (.aload_n 0, 1) := by decide +kernel
theorem dX6_lacks_38 : decode cX6_lacks 38 = .ok (.iload_n 1, 1) := by decide +kernel
theorem dX6_lacks_39 : decode cX6_lacks 39 = .ok (.iconst 4, 1) := by decide +kernel
theorem dX6_lacks_40 : decode cX6_lacks 40 = .ok (.ldc 121, 2) := by decide +kernel
theorem dX6_lacks_42 : decode cX6_lacks 42 = .ok (.invokevirtual 43, 3) := by decide +kernel
theorem dX6_lacks_45 : decode cX6_lacks 45 = .ok (.aload_n 0, 1) := by decide +kernel
theorem dX6_lacks_46 : decode cX6_lacks 46 = .ok (.bipush 18, 2) := by decide +kernel
theorem dX6_lacks_48 : decode cX6_lacks 48 = .ok (.aload_n 0, 1) := by decide +kernel
theorem dX6_lacks_49 : decode cX6_lacks 49 = .ok (.getfield 7, 3) := by decide +kernel
theorem dX6_lacks_52 : decode cX6_lacks 52 = .ok (.iconst 0, 1) := by decide +kernel
theorem dX6_lacks_53 : decode cX6_lacks 53 = .ok (.iaload, 1) := by decide +kernel
theorem dX6_lacks_54 : decode cX6_lacks 54 = .ok (.isub, 1) := by decide +kernel
theorem dX6_lacks_55 : decode cX6_lacks 55 = .ok (.invokevirtual 94, 3) := by decide +kernel
theorem dX6_lacks_58 : decode cX6_lacks 58 = .ok (.istore 4, 2) := by decide +kernel
theorem dX6_lacks_60 : decode cX6_lacks 60 = .ok (.aload_n 0, 1) := by decide +kernel
theorem dX6_lacks_61 : decode cX6_lacks 61 = .ok (.iload_n 1, 1) := by decide +kernel
theorem dX6_lacks_62 : decode cX6_lacks 62 = .ok (.iconst 2, 1) := by decide +kernel
theorem dX6_lacks_63 : decode cX6_lacks 63 = .ok (.invokevirtual 54, 3) := by decide +kernel
theorem dX6_lacks_66 : decode cX6_lacks 66 = .ok (.iload_n 3, 1) := by decide +kernel
theorem dX6_lacks_67 : decode cX6_lacks 67 = .ok (.isub, 1) := by decide +kernel
theorem dX6_lacks_68 : decode cX6_lacks 68 = .ok (.iload_n 2, 1) := by decide +kernel
theorem dX6_lacks_69 : decode cX6_lacks 69 = .ok (.isub, 1) := by decide +kernel
theorem dX6_lacks_70 : decode cX6_lacks 70 = .ok (.istore 5, 2) := by decide +kernel
theorem dX6_lacks_72 : decode cX6_lacks 72 = .ok (.aload_n 0, 1) := by decide +kernel
theorem dX6_lacks_73 : decode cX6_lacks 73 = .ok (.getfield 19, 3) := by decide +kernel
theorem dX6_lacks_76 : decode cX6_lacks 76 = .ok (.iconst 0, 1) := by decide +kernel
theorem dX6_lacks_77 : decode cX6_lacks 77 = .ok (.aload_n 0, 1) := by decide +kernel
theorem dX6_lacks_78 : decode cX6_lacks 78 = .ok (.getfield 7, 3) := by decide +kernel
theorem dX6_lacks_81 : decode cX6_lacks 81 = .ok (.iconst 0, 1) := by decide +kernel
theorem dX6_lacks_82 : decode cX6_lacks 82 = .ok (.invokestatic 32, 3) := by decide +kernel
theorem dX6_lacks_85 : decode cX6_lacks 85 = .ok (.iload 5, 2) := by decide +kernel
theorem dX6_lacks_87 : decode cX6_lacks 87 = .ok (.ifCond .ge 7, 3) := by decide +kernel
theorem dX6_lacks_90 : decode cX6_lacks 90 = .ok (.iconst 0, 1) := by decide +kernel
theorem dX6_lacks_91 : decode cX6_lacks 91 = .ok (.goto 5, 3) := by decide +kernel
theorem dX6_lacks_94 : decode cX6_lacks 94 = .ok (.iload 5, 2) := by decide +kernel
theorem dX6_lacks_96 : decode cX6_lacks 96 = .ok (.ireturn, 1) := by decide +kernel
theorem dX6_overStations_0 : decode cX6_overStations 0 = .ok (.iconst 0, 1) := by decide +kernel
theorem dX6_overStations_1 : decode cX6_overStations 1 = .ok (.istore_n 2, 1) := by decide +kernel
theorem dX6_overStations_2 : decode cX6_overStations 2 = .ok (.iconst 0, 1) := by decide +kernel
theorem dX6_overStations_3 : decode cX6_overStations 3 = .ok (.istore_n 3, 1) := by decide +kernel
theorem dX6_overStations_4 : decode cX6_overStations 4 = .ok (.iload_n 3, 1) := by decide +kernel
theorem dX6_overStations_5 : decode cX6_overStations 5 = .ok (.aload_n 0, 1) := by decide +kernel
theorem dX6_overStations_6 : decode cX6_overStations 6 = .ok (.getfield 7, 3) := by decide +kernel
theorem dX6_overStations_9 : decode cX6_overStations 9 = .ok (.iconst 1, 1) := by decide +kernel
theorem dX6_overStations_10 : decode cX6_overStations 10 = .ok (.iaload, 1) := by decide +kernel
theorem dX6_overStations_11 : decode cX6_overStations 11 = .ok (.if_icmp .ge 18, 3) := by decide +kernel
theorem dX6_overStations_14 : decode cX6_overStations 14 = .ok (.iload_n 2, 1) := by decide +kernel
theorem dX6_overStations_15 : decode cX6_overStations 15 = .ok (.aload_n 0, 1) := by decide +kernel
theorem dX6_overStations_16 : decode cX6_overStations 16 = .ok (.iload_n 3, 1) := by decide +kernel
theorem dX6_overStations_17 : decode cX6_overStations 17 = .ok (.iload_n 1, 1) := by decide +kernel
theorem dX6_overStations_18 : decode cX6_overStations 18 = .ok (.invokevirtual 54, 3) := by decide +kernel
theorem dX6_overStations_21 : decode cX6_overStations 21 = .ok (.iadd, 1) := by decide +kernel
theorem dX6_overStations_22 : decode cX6_overStations 22 = .ok (.istore_n 2, 1) := by decide +kernel
theorem dX6_overStations_23 : decode cX6_overStations 23 = .ok (.iinc 3 1, 3) := by decide +kernel
theorem dX6_overStations_26 : decode cX6_overStations 26 = .ok (.goto (-22), 3) := by decide +kernel
theorem dX6_overStations_29 : decode cX6_overStations 29 = .ok (.iload_n 2, 1) := by decide +kernel
theorem dX6_overStations_30 : decode cX6_overStations 30 = .ok (.ireturn, 1) := by decide +kernel
theorem dX6_countedAs_0 : decode cX6_countedAs 0 = .ok (.iconst 0, 1) := by decide +kernel
theorem dX6_countedAs_1 : decode cX6_countedAs 1 = .ok (.istore_n 2, 1) := by decide +kernel
theorem dX6_countedAs_2 : decode cX6_countedAs 2 = .ok (.iconst 0, 1) := by decide +kernel
theorem dX6_countedAs_3 : decode cX6_countedAs 3 = .ok (.istore_n 3, 1) := by decide +kernel
theorem dX6_countedAs_4 : decode cX6_countedAs 4 = .ok (.iload_n 3, 1) := by decide +kernel
theorem dX6_countedAs_5 : decode cX6_countedAs 5 = .ok (.aload_n 0, 1) := by decide +kernel
theorem dX6_countedAs_6 : decode cX6_countedAs 6 = .ok (.getfield 7, 3) := by decide +kernel
theorem dX6_countedAs_9 : decode cX6_countedAs 9 = .ok (.iconst 1, 1) := by decide +kernel
theorem dX6_countedAs_10 : decode cX6_countedAs 10 = .ok (.iaload, 1) := by decide +kernel
theorem dX6_countedAs_11 : decode cX6_countedAs 11 = .ok (.if_icmp .ge 54, 3) := by decide +kernel
theorem dX6_countedAs_14 : decode cX6_countedAs 14 = .ok (.iload_n 2, 1) := by decide +kernel
theorem dX6_countedAs_15 : decode cX6_countedAs 15 = .ok (.aload_n 0, 1) := by decide +kernel
theorem dX6_countedAs_16 : decode cX6_countedAs 16 = .ok (.iload_n 3, 1) := by decide +kernel
theorem dX6_countedAs_17 : decode cX6_countedAs 17 = .ok (.bipush 10, 2) := by decide +kernel
theorem dX6_countedAs_19 : decode cX6_countedAs 19 = .ok (.invokevirtual 54, 3) := by decide +kernel
theorem dX6_countedAs_22 : decode cX6_countedAs 22 = .ok (.iconst (-1), 1) := by decide +kernel
theorem dX6_countedAs_23 : decode cX6_countedAs 23 = .ok (.if_icmp .eq 33, 3) := by decide +kernel
theorem dX6_countedAs_26 : decode cX6_countedAs 26 = .ok (.aload_n 0, 1) := by decide +kernel
theorem dX6_countedAs_27 : decode cX6_countedAs 27 = .ok (.iload_n 3, 1) := by decide +kernel
theorem dX6_countedAs_28 : decode cX6_countedAs 28 = .ok (.bipush 10, 2) := by decide +kernel
theorem dX6_countedAs_30 : decode cX6_countedAs 30 = .ok (.invokevirtual 54, 3) := by decide +kernel
theorem dX6_countedAs_33 : decode cX6_countedAs 33 = .ok (.aload_n 0, 1) := by decide +kernel
theorem dX6_countedAs_34 : decode cX6_countedAs 34 = .ok (.iload_n 3, 1) := by decide +kernel
theorem dX6_countedAs_35 : decode cX6_countedAs 35 = .ok (.bipush 9, 2) := by decide +kernel
theorem dX6_countedAs_37 : decode cX6_countedAs 37 = .ok (.invokevirtual 54, 3) := by decide +kernel
theorem dX6_countedAs_40 : decode cX6_countedAs 40 = .ok (.if_icmp .ne 7, 3) := by decide +kernel
theorem dX6_countedAs_43 : decode cX6_countedAs 43 = .ok (.iconst 1, 1) := by decide +kernel
theorem dX6_countedAs_44 : decode cX6_countedAs 44 = .ok (.goto 4, 3) := by decide +kernel
theorem dX6_countedAs_47 : decode cX6_countedAs 47 = .ok (.iconst 0, 1) := by decide +kernel
theorem dX6_countedAs_48 : decode cX6_countedAs 48 = .ok (.iload_n 1, 1) := by decide +kernel
theorem dX6_countedAs_49 : decode cX6_countedAs 49 = .ok (.if_icmp .ne 7, 3) := by decide +kernel
theorem dX6_countedAs_52 : decode cX6_countedAs 52 = .ok (.iconst 1, 1) := by decide +kernel
theorem dX6_countedAs_53 : decode cX6_countedAs 53 = .ok (.goto 4, 3) := by decide +kernel
theorem dX6_countedAs_56 : decode cX6_countedAs 56 = .ok (.iconst 0, 1) := by decide +kernel
theorem dX6_countedAs_57 : decode cX6_countedAs 57 = .ok (.iadd, 1) := by decide +kernel
theorem dX6_countedAs_58 : decode cX6_countedAs 58 = .ok (.istore_n 2, 1) := by decide +kernel
theorem dX6_countedAs_59 : decode cX6_countedAs 59 = .ok (.iinc 3 1, 3) := by decide +kernel
theorem dX6_countedAs_62 : decode cX6_countedAs 62 = .ok (.goto (-58), 3) := by decide +kernel
theorem dX6_countedAs_65 : decode cX6_countedAs 65 = .ok (.iload_n 2, 1) := by decide +kernel
theorem dX6_countedAs_66 : decode cX6_countedAs 66 = .ok (.ireturn, 1) := by decide +kernel
theorem dX6_overClerks_0 : decode cX6_overClerks 0 = .ok (.iconst 0, 1) := by decide +kernel
theorem dX6_overClerks_1 : decode cX6_overClerks 1 = .ok (.istore_n 2, 1) := by decide +kernel
theorem dX6_overClerks_2 : decode cX6_overClerks 2 = .ok (.iconst 0, 1) := by decide +kernel
theorem dX6_overClerks_3 : decode cX6_overClerks 3 = .ok (.istore_n 3, 1) := by decide +kernel
theorem dX6_overClerks_4 : decode cX6_overClerks 4 = .ok (.iload_n 3, 1) := by decide +kernel
theorem dX6_overClerks_5 : decode cX6_overClerks 5 = .ok (.aload_n 0, 1) := by decide +kernel
theorem dX6_overClerks_6 : decode cX6_overClerks 6 = .ok (.getfield 7, 3) := by decide +kernel
theorem dX6_overClerks_9 : decode cX6_overClerks 9 = .ok (.iconst 2, 1) := by decide +kernel
theorem dX6_overClerks_10 : decode cX6_overClerks 10 = .ok (.iaload, 1) := by decide +kernel
theorem dX6_overClerks_11 : decode cX6_overClerks 11 = .ok (.if_icmp .ge 65, 3) := by decide +kernel
theorem dX6_overClerks_14 : decode cX6_overClerks 14 = .ok (.iload_n 1, 1) := by decide +kernel
theorem dX6_overClerks_15 : decode cX6_overClerks 15 = .ok (.ifCond .ne 21, 3) := by decide +kernel
theorem dX6_overClerks_18 : decode cX6_overClerks 18 = .ok (.aload_n 0, 1) := by decide +kernel
theorem dX6_overClerks_19 : decode cX6_overClerks 19 = .ok (.iload_n 3, 1) := by decide +kernel
theorem dX6_overClerks_20 : decode cX6_overClerks 20 = .ok (.iconst 2, 1) := by decide +kernel
theorem dX6_overClerks_21 : decode cX6_overClerks 21 = .ok (.invokevirtual 58, 3) := by decide +kernel
theorem dX6_overClerks_24 : decode cX6_overClerks 24 = .ok (.iconst (-1), 1) := by decide +kernel
theorem dX6_overClerks_25 : decode cX6_overClerks 25 = .ok (.if_icmp .eq 7, 3) := by decide +kernel
theorem dX6_overClerks_28 : decode cX6_overClerks 28 = .ok (.iconst 1, 1) := by decide +kernel
theorem dX6_overClerks_29 : decode cX6_overClerks 29 = .ok (.goto 12, 3) := by decide +kernel
theorem dX6_overClerks_32 : decode cX6_overClerks 32 = .ok (.iconst 0, 1) := by decide +kernel
theorem dX6_overClerks_33 : decode cX6_overClerks 33 = .ok (.goto 8, 3) := by decide +kernel
theorem dX6_overClerks_36 : decode cX6_overClerks 36 = .ok (.aload_n 0, 1) := by decide +kernel
theorem dX6_overClerks_37 : decode cX6_overClerks 37 = .ok (.iload_n 3, 1) := by decide +kernel
theorem dX6_overClerks_38 : decode cX6_overClerks 38 = .ok (.invokevirtual 61, 3) := by decide +kernel
theorem dX6_overClerks_41 : decode cX6_overClerks 41 = .ok (.istore 4, 2) := by decide +kernel
theorem dX6_overClerks_43 : decode cX6_overClerks 43 = .ok (.iload_n 2, 1) := by decide +kernel
theorem dX6_overClerks_44 : decode cX6_overClerks 44 = .ok (.iload_n 1, 1) := by decide +kernel
theorem dX6_overClerks_45 : decode cX6_overClerks 45 = .ok (.iconst 2, 1) := by decide +kernel
theorem dX6_overClerks_46 : decode cX6_overClerks 46 = .ok (.if_icmp .ne 12, 3) := by decide +kernel
theorem dX6_overClerks_49 : decode cX6_overClerks 49 = .ok (.aload_n 0, 1) := by decide +kernel
theorem dX6_overClerks_50 : decode cX6_overClerks 50 = .ok (.iload_n 3, 1) := by decide +kernel
theorem dX6_overClerks_51 : decode cX6_overClerks 51 = .ok (.iconst 4, 1) := by decide +kernel
theorem dX6_overClerks_52 : decode cX6_overClerks 52 = .ok (.invokevirtual 58, 3) := by decide +kernel
theorem dX6_overClerks_55 : decode cX6_overClerks 55 = .ok (.goto 13, 3) := by decide +kernel
theorem dX6_overClerks_58 : decode cX6_overClerks 58 = .ok (.iload 4, 2) := by decide +kernel
theorem dX6_overClerks_60 : decode cX6_overClerks 60 = .ok (.ifCond .eq 7, 3) := by decide +kernel
theorem dX6_overClerks_63 : decode cX6_overClerks 63 = .ok (.iconst 1, 1) := by decide +kernel
theorem dX6_overClerks_64 : decode cX6_overClerks 64 = .ok (.goto 4, 3) := by decide +kernel
theorem dX6_overClerks_67 : decode cX6_overClerks 67 = .ok (.iconst 0, 1) := by decide +kernel
theorem dX6_overClerks_68 : decode cX6_overClerks 68 = .ok (.iadd, 1) := by decide +kernel
theorem dX6_overClerks_69 : decode cX6_overClerks 69 = .ok (.istore_n 2, 1) := by decide +kernel
theorem dX6_overClerks_70 : decode cX6_overClerks 70 = .ok (.iinc 3 1, 3) := by decide +kernel
theorem dX6_overClerks_73 : decode cX6_overClerks 73 = .ok (.goto (-69), 3) := by decide +kernel
theorem dX6_overClerks_76 : decode cX6_overClerks 76 = .ok (.iload_n 2, 1) := by decide +kernel
theorem dX6_overClerks_77 : decode cX6_overClerks 77 = .ok (.ireturn, 1) := by decide +kernel
theorem dX6_count_0 : decode cX6_count 0 = .ok (.iload_n 1, 1) := by decide +kernel
theorem dX6_count_1 : decode cX6_count 1 = .ok (.tableswitch 163 0 15 #[79, 79, 79, 86, 86, 94, 100, 106, 112, 118, 125, 125, 141, 147, 153, 158], 79) := by decide +kernel
theorem dX6_count_80 : decode cX6_count 80 = .ok (.aload_n 0, 1) := by decide +kernel
theorem dX6_count_81 : decode cX6_count 81 = .ok (.getfield 7, 3) := by decide +kernel
theorem dX6_count_84 : decode cX6_count 84 = .ok (.iload_n 1, 1) := by decide +kernel
theorem dX6_count_85 : decode cX6_count 85 = .ok (.iaload, 1) := by decide +kernel
theorem dX6_count_86 : decode cX6_count 86 = .ok (.ireturn, 1) := by decide +kernel
theorem dX6_count_87 : decode cX6_count 87 = .ok (.aload_n 0, 1) := by decide +kernel
theorem dX6_count_88 : decode cX6_count 88 = .ok (.iload_n 1, 1) := by decide +kernel
theorem dX6_count_89 : decode cX6_count 89 = .ok (.iconst 3, 1) := by decide +kernel
theorem dX6_count_90 : decode cX6_count 90 = .ok (.isub, 1) := by decide +kernel
theorem dX6_count_91 : decode cX6_count 91 = .ok (.invokevirtual 122, 3) := by decide +kernel
theorem dX6_count_94 : decode cX6_count 94 = .ok (.ireturn, 1) := by decide +kernel
theorem dX6_count_95 : decode cX6_count 95 = .ok (.aload_n 0, 1) := by decide +kernel
theorem dX6_count_96 : decode cX6_count 96 = .ok (.iconst 0, 1) := by decide +kernel
theorem dX6_count_97 : decode cX6_count 97 = .ok (.invokevirtual 125, 3) := by decide +kernel
theorem dX6_count_100 : decode cX6_count 100 = .ok (.ireturn, 1) := by decide +kernel
theorem dX6_count_101 : decode cX6_count 101 = .ok (.aload_n 0, 1) := by decide +kernel
theorem dX6_count_102 : decode cX6_count 102 = .ok (.iconst 2, 1) := by decide +kernel
theorem dX6_count_103 : decode cX6_count 103 = .ok (.invokevirtual 125, 3) := by decide +kernel
theorem dX6_count_106 : decode cX6_count 106 = .ok (.ireturn, 1) := by decide +kernel
theorem dX6_count_107 : decode cX6_count 107 = .ok (.aload_n 0, 1) := by decide +kernel
theorem dX6_count_108 : decode cX6_count 108 = .ok (.iconst 4, 1) := by decide +kernel
theorem dX6_count_109 : decode cX6_count 109 = .ok (.invokevirtual 125, 3) := by decide +kernel
theorem dX6_count_112 : decode cX6_count 112 = .ok (.ireturn, 1) := by decide +kernel
theorem dX6_count_113 : decode cX6_count 113 = .ok (.aload_n 0, 1) := by decide +kernel
theorem dX6_count_114 : decode cX6_count 114 = .ok (.iconst 5, 1) := by decide +kernel
theorem dX6_count_115 : decode cX6_count 115 = .ok (.invokevirtual 125, 3) := by decide +kernel
theorem dX6_count_118 : decode cX6_count 118 = .ok (.ireturn, 1) := by decide +kernel
theorem dX6_count_119 : decode cX6_count 119 = .ok (.aload_n 0, 1) := by decide +kernel
theorem dX6_count_120 : decode cX6_count 120 = .ok (.bipush 9, 2) := by decide +kernel
theorem dX6_count_122 : decode cX6_count 122 = .ok (.invokevirtual 125, 3) := by decide +kernel
theorem dX6_count_125 : decode cX6_count 125 = .ok (.ireturn, 1) := by decide +kernel
theorem dX6_count_126 : decode cX6_count 126 = .ok (.aload_n 0, 1) := by decide +kernel
theorem dX6_count_127 : decode cX6_count 127 = .ok (.iload_n 1, 1) := by decide +kernel
theorem dX6_count_128 : decode cX6_count 128 = .ok (.bipush 10, 2) := by decide +kernel
theorem dX6_count_130 : decode cX6_count 130 = .ok (.if_icmp .ne 7, 3) := by decide +kernel
theorem dX6_count_133 : decode cX6_count 133 = .ok (.iconst 1, 1) := by decide +kernel
theorem dX6_count_134 : decode cX6_count 134 = .ok (.goto 4, 3) := by decide +kernel
theorem dX6_count_137 : decode cX6_count 137 = .ok (.iconst 0, 1) := by decide +kernel
theorem dX6_count_138 : decode cX6_count 138 = .ok (.invokevirtual 128, 3) := by decide +kernel
theorem dX6_count_141 : decode cX6_count 141 = .ok (.ireturn, 1) := by decide +kernel
theorem dX6_count_142 : decode cX6_count 142 = .ok (.aload_n 0, 1) := by decide +kernel
theorem dX6_count_143 : decode cX6_count 143 = .ok (.iconst 3, 1) := by decide +kernel
theorem dX6_count_144 : decode cX6_count 144 = .ok (.invokevirtual 125, 3) := by decide +kernel
theorem dX6_count_147 : decode cX6_count 147 = .ok (.ireturn, 1) := by decide +kernel
theorem dX6_count_148 : decode cX6_count 148 = .ok (.aload_n 0, 1) := by decide +kernel
theorem dX6_count_149 : decode cX6_count 149 = .ok (.iconst 2, 1) := by decide +kernel
theorem dX6_count_150 : decode cX6_count 150 = .ok (.invokevirtual 122, 3) := by decide +kernel
theorem dX6_count_153 : decode cX6_count 153 = .ok (.ireturn, 1) := by decide +kernel
theorem dX6_count_154 : decode cX6_count 154 = .ok (.aload_n 0, 1) := by decide +kernel
theorem dX6_count_155 : decode cX6_count 155 = .ok (.getfield 28, 3) := by decide +kernel
theorem dX6_count_158 : decode cX6_count 158 = .ok (.ireturn, 1) := by decide +kernel
theorem dX6_count_159 : decode cX6_count 159 = .ok (.aload_n 0, 1) := by decide +kernel
theorem dX6_count_160 : decode cX6_count 160 = .ok (.getfield 98, 3) := by decide +kernel
theorem dX6_count_163 : decode cX6_count 163 = .ok (.ireturn, 1) := by decide +kernel
theorem dX6_count_164 : decode cX6_count 164 = .ok (.bipush (-2), 2) := by decide +kernel
theorem dX6_count_166 : decode cX6_count 166 = .ok (.ireturn, 1) := by decide +kernel
theorem dJ9_max_7cf53_0 : decode cJ9_max_7cf53 0 = .ok (.iload_n 0, 1) := by decide +kernel
theorem dJ9_max_7cf53_1 : decode cJ9_max_7cf53 1 = .ok (.iload_n 1, 1) := by decide +kernel
theorem dJ9_max_7cf53_2 : decode cJ9_max_7cf53 2 = .ok (.if_icmp .lt 7, 3) := by decide +kernel
theorem dJ9_max_7cf53_5 : decode cJ9_max_7cf53 5 = .ok (.iload_n 0, 1) := by decide +kernel
theorem dJ9_max_7cf53_6 : decode cJ9_max_7cf53 6 = .ok (.goto 4, 3) := by decide +kernel
theorem dJ9_max_7cf53_9 : decode cJ9_max_7cf53 9 = .ok (.iload_n 1, 1) := by decide +kernel
theorem dJ9_max_7cf53_10 : decode cJ9_max_7cf53 10 = .ok (.ireturn, 1) := by decide +kernel
theorem dJ9_min_7cf53_0 : decode cJ9_min_7cf53 0 = .ok (.iload_n 0, 1) := by decide +kernel
theorem dJ9_min_7cf53_1 : decode cJ9_min_7cf53 1 = .ok (.iload_n 1, 1) := by decide +kernel
theorem dJ9_min_7cf53_2 : decode cJ9_min_7cf53 2 = .ok (.if_icmp .gt 7, 3) := by decide +kernel
theorem dJ9_min_7cf53_5 : decode cJ9_min_7cf53 5 = .ok (.iload_n 0, 1) := by decide +kernel
theorem dJ9_min_7cf53_6 : decode cJ9_min_7cf53 6 = .ok (.goto 4, 3) := by decide +kernel
theorem dJ9_min_7cf53_9 : decode cJ9_min_7cf53 9 = .ok (.iload_n 1, 1) := by decide +kernel
theorem dJ9_min_7cf53_10 : decode cJ9_min_7cf53 10 = .ok (.ireturn, 1) := by decide +kernel
theorem dL_law_0 : decode cL_law 0 = .ok (.new 7, 3) := by decide +kernel
theorem dL_law_3 : decode cL_law 3 = .ok (.dup, 1) := by decide +kernel
theorem dL_law_4 : decode cL_law 4 = .ok (.invokespecial 9, 3) := by decide +kernel
theorem dL_law_7 : decode cL_law 7 = .ok (.astore_n 1, 1) := by decide +kernel
theorem dL_law_8 : decode cL_law 8 = .ok (.new 10, 3) := by decide +kernel
theorem dL_law_11 : decode cL_law 11 = .ok (.dup, 1) := by decide +kernel
theorem dL_law_12 : decode cL_law 12 = .ok (.invokespecial 12, 3) := by decide +kernel
theorem dL_law_15 : decode cL_law 15 = .ok (.astore_n 2, 1) := by decide +kernel
theorem dL_law_16 : decode cL_law 16 = .ok (.iconst 0, 1) := by decide +kernel
theorem dL_law_17 : decode cL_law 17 = .ok (.istore_n 3, 1) := by decide +kernel
theorem dL_law_18 : decode cL_law 18 = .ok (.iload_n 3, 1) := by decide +kernel
theorem dL_law_19 : decode cL_law 19 = .ok (.aload_n 0, 1) := by decide +kernel
theorem dL_law_20 : decode cL_law 20 = .ok (.arraylength, 1) := by decide +kernel
theorem dL_law_21 : decode cL_law 21 = .ok (.iconst 4, 1) := by decide +kernel
theorem dL_law_22 : decode cL_law 22 = .ok (.isub, 1) := by decide +kernel
theorem dL_law_23 : decode cL_law 23 = .ok (.if_icmp .gt 882, 3) := by decide +kernel
theorem dL_law_26 : decode cL_law 26 = .ok (.aload_n 0, 1) := by decide +kernel
theorem dL_law_27 : decode cL_law 27 = .ok (.iload_n 3, 1) := by decide +kernel
theorem dL_law_28 : decode cL_law 28 = .ok (.iaload, 1) := by decide +kernel
theorem dL_law_29 : decode cL_law 29 = .ok (.bipush 31, 2) := by decide +kernel
theorem dL_law_31 : decode cL_law 31 = .ok (.iand, 1) := by decide +kernel
theorem dL_law_32 : decode cL_law 32 = .ok (.tableswitch 867 0 26 #[124, 137, 170, 213, 246, 269, 292, 325, 368, 401, 434, 467, 500, 525, 538, 571, 584, 597, 610, 643, 676, 709, 742, 765, 788, 821, 844], 124) := by decide +kernel
theorem dL_law_156 : decode cL_law 156 = .ok (.aload_n 1, 1) := by decide +kernel
theorem dL_law_157 : decode cL_law 157 = .ok (.invokevirtual 13, 3) := by decide +kernel
theorem dL_law_160 : decode cL_law 160 = .ok (.aload_n 2, 1) := by decide +kernel
theorem dL_law_161 : decode cL_law 161 = .ok (.invokevirtual 17, 3) := by decide +kernel
theorem dL_law_164 : decode cL_law 164 = .ok (.if_icmp .eq 735, 3) := by decide +kernel
theorem dL_law_167 : decode cL_law 167 = .ok (.iconst 0, 1) := by decide +kernel
theorem dL_law_168 : decode cL_law 168 = .ok (.ireturn, 1) := by decide +kernel
theorem dL_law_169 : decode cL_law 169 = .ok (.aload_n 1, 1) := by decide +kernel
theorem dL_law_170 : decode cL_law 170 = .ok (.aload_n 0, 1) := by decide +kernel
theorem dL_law_171 : decode cL_law 171 = .ok (.iload_n 3, 1) := by decide +kernel
theorem dL_law_172 : decode cL_law 172 = .ok (.iconst 1, 1) := by decide +kernel
theorem dL_law_173 : decode cL_law 173 = .ok (.iadd, 1) := by decide +kernel
theorem dL_law_174 : decode cL_law 174 = .ok (.iaload, 1) := by decide +kernel
theorem dL_law_175 : decode cL_law 175 = .ok (.aload_n 0, 1) := by decide +kernel
theorem dL_law_176 : decode cL_law 176 = .ok (.iload_n 3, 1) := by decide +kernel
theorem dL_law_177 : decode cL_law 177 = .ok (.iconst 2, 1) := by decide +kernel
theorem dL_law_178 : decode cL_law 178 = .ok (.iadd, 1) := by decide +kernel
theorem dL_law_179 : decode cL_law 179 = .ok (.iaload, 1) := by decide +kernel
theorem dL_law_180 : decode cL_law 180 = .ok (.invokevirtual 18, 3) := by decide +kernel
theorem dL_law_183 : decode cL_law 183 = .ok (.aload_n 2, 1) := by decide +kernel
theorem dL_law_184 : decode cL_law 184 = .ok (.aload_n 0, 1) := by decide +kernel
theorem dL_law_185 : decode cL_law 185 = .ok (.iload_n 3, 1) := by decide +kernel
theorem dL_law_186 : decode cL_law 186 = .ok (.iconst 1, 1) := by decide +kernel
theorem dL_law_187 : decode cL_law 187 = .ok (.iadd, 1) := by decide +kernel
theorem dL_law_188 : decode cL_law 188 = .ok (.iaload, 1) := by decide +kernel
theorem dL_law_189 : decode cL_law 189 = .ok (.aload_n 0, 1) := by decide +kernel
theorem dL_law_190 : decode cL_law 190 = .ok (.iload_n 3, 1) := by decide +kernel
theorem dL_law_191 : decode cL_law 191 = .ok (.iconst 2, 1) := by decide +kernel
theorem dL_law_192 : decode cL_law 192 = .ok (.iadd, 1) := by decide +kernel
theorem dL_law_193 : decode cL_law 193 = .ok (.iaload, 1) := by decide +kernel
theorem dL_law_194 : decode cL_law 194 = .ok (.invokevirtual 22, 3) := by decide +kernel
theorem dL_law_197 : decode cL_law 197 = .ok (.if_icmp .eq 702, 3) := by decide +kernel
theorem dL_law_200 : decode cL_law 200 = .ok (.iconst 0, 1) := by decide +kernel
theorem dL_law_201 : decode cL_law 201 = .ok (.ireturn, 1) := by decide +kernel
theorem dL_law_202 : decode cL_law 202 = .ok (.aload_n 1, 1) := by decide +kernel
theorem dL_law_203 : decode cL_law 203 = .ok (.aload_n 0, 1) := by decide +kernel
theorem dL_law_204 : decode cL_law 204 = .ok (.iload_n 3, 1) := by decide +kernel
theorem dL_law_205 : decode cL_law 205 = .ok (.iconst 1, 1) := by decide +kernel
theorem dL_law_206 : decode cL_law 206 = .ok (.iadd, 1) := by decide +kernel
theorem dL_law_207 : decode cL_law 207 = .ok (.iaload, 1) := by decide +kernel
theorem dL_law_208 : decode cL_law 208 = .ok (.aload_n 0, 1) := by decide +kernel
theorem dL_law_209 : decode cL_law 209 = .ok (.iload_n 3, 1) := by decide +kernel
theorem dL_law_210 : decode cL_law 210 = .ok (.iconst 2, 1) := by decide +kernel
theorem dL_law_211 : decode cL_law 211 = .ok (.iadd, 1) := by decide +kernel
theorem dL_law_212 : decode cL_law 212 = .ok (.iaload, 1) := by decide +kernel
theorem dL_law_213 : decode cL_law 213 = .ok (.aload_n 0, 1) := by decide +kernel
theorem dL_law_214 : decode cL_law 214 = .ok (.iload_n 3, 1) := by decide +kernel
theorem dL_law_215 : decode cL_law 215 = .ok (.iconst 3, 1) := by decide +kernel
theorem dL_law_216 : decode cL_law 216 = .ok (.iadd, 1) := by decide +kernel
theorem dL_law_217 : decode cL_law 217 = .ok (.iaload, 1) := by decide +kernel
theorem dL_law_218 : decode cL_law 218 = .ok (.invokevirtual 23, 3) := by decide +kernel
theorem dL_law_221 : decode cL_law 221 = .ok (.aload_n 2, 1) := by decide +kernel
theorem dL_law_222 : decode cL_law 222 = .ok (.aload_n 0, 1) := by decide +kernel
theorem dL_law_223 : decode cL_law 223 = .ok (.iload_n 3, 1) := by decide +kernel
theorem dL_law_224 : decode cL_law 224 = .ok (.iconst 1, 1) := by decide +kernel
theorem dL_law_225 : decode cL_law 225 = .ok (.iadd, 1) := by decide +kernel
theorem dL_law_226 : decode cL_law 226 = .ok (.iaload, 1) := by decide +kernel
theorem dL_law_227 : decode cL_law 227 = .ok (.aload_n 0, 1) := by decide +kernel
theorem dL_law_228 : decode cL_law 228 = .ok (.iload_n 3, 1) := by decide +kernel
theorem dL_law_229 : decode cL_law 229 = .ok (.iconst 2, 1) := by decide +kernel
theorem dL_law_230 : decode cL_law 230 = .ok (.iadd, 1) := by decide +kernel
theorem dL_law_231 : decode cL_law 231 = .ok (.iaload, 1) := by decide +kernel
theorem dL_law_232 : decode cL_law 232 = .ok (.aload_n 0, 1) := by decide +kernel
theorem dL_law_233 : decode cL_law 233 = .ok (.iload_n 3, 1) := by decide +kernel
theorem dL_law_234 : decode cL_law 234 = .ok (.iconst 3, 1) := by decide +kernel
theorem dL_law_235 : decode cL_law 235 = .ok (.iadd, 1) := by decide +kernel
theorem dL_law_236 : decode cL_law 236 = .ok (.iaload, 1) := by decide +kernel
theorem dL_law_237 : decode cL_law 237 = .ok (.invokevirtual 27, 3) := by decide +kernel
theorem dL_law_240 : decode cL_law 240 = .ok (.if_icmp .eq 659, 3) := by decide +kernel
theorem dL_law_243 : decode cL_law 243 = .ok (.iconst 0, 1) := by decide +kernel
theorem dL_law_244 : decode cL_law 244 = .ok (.ireturn, 1) := by decide +kernel
theorem dL_law_245 : decode cL_law 245 = .ok (.aload_n 1, 1) := by decide +kernel
theorem dL_law_246 : decode cL_law 246 = .ok (.aload_n 0, 1) := by decide +kernel
theorem dL_law_247 : decode cL_law 247 = .ok (.iload_n 3, 1) := by decide +kernel
theorem dL_law_248 : decode cL_law 248 = .ok (.iconst 1, 1) := by decide +kernel
theorem dL_law_249 : decode cL_law 249 = .ok (.iadd, 1) := by decide +kernel
theorem dL_law_250 : decode cL_law 250 = .ok (.iaload, 1) := by decide +kernel
theorem dL_law_251 : decode cL_law 251 = .ok (.aload_n 0, 1) := by decide +kernel
theorem dL_law_252 : decode cL_law 252 = .ok (.iload_n 3, 1) := by decide +kernel
theorem dL_law_253 : decode cL_law 253 = .ok (.iconst 2, 1) := by decide +kernel
theorem dL_law_254 : decode cL_law 254 = .ok (.iadd, 1) := by decide +kernel
theorem dL_law_255 : decode cL_law 255 = .ok (.iaload, 1) := by decide +kernel
theorem dL_law_256 : decode cL_law 256 = .ok (.invokevirtual 28, 3) := by decide +kernel
theorem dL_law_259 : decode cL_law 259 = .ok (.aload_n 2, 1) := by decide +kernel
theorem dL_law_260 : decode cL_law 260 = .ok (.aload_n 0, 1) := by decide +kernel
theorem dL_law_261 : decode cL_law 261 = .ok (.iload_n 3, 1) := by decide +kernel
theorem dL_law_262 : decode cL_law 262 = .ok (.iconst 1, 1) := by decide +kernel
theorem dL_law_263 : decode cL_law 263 = .ok (.iadd, 1) := by decide +kernel
theorem dL_law_264 : decode cL_law 264 = .ok (.iaload, 1) := by decide +kernel
theorem dL_law_265 : decode cL_law 265 = .ok (.aload_n 0, 1) := by decide +kernel
theorem dL_law_266 : decode cL_law 266 = .ok (.iload_n 3, 1) := by decide +kernel
theorem dL_law_267 : decode cL_law 267 = .ok (.iconst 2, 1) := by decide +kernel
theorem dL_law_268 : decode cL_law 268 = .ok (.iadd, 1) := by decide +kernel
theorem dL_law_269 : decode cL_law 269 = .ok (.iaload, 1) := by decide +kernel
theorem dL_law_270 : decode cL_law 270 = .ok (.invokevirtual 31, 3) := by decide +kernel
theorem dL_law_273 : decode cL_law 273 = .ok (.if_icmp .eq 626, 3) := by decide +kernel
theorem dL_law_276 : decode cL_law 276 = .ok (.iconst 0, 1) := by decide +kernel
theorem dL_law_277 : decode cL_law 277 = .ok (.ireturn, 1) := by decide +kernel
theorem dL_law_278 : decode cL_law 278 = .ok (.aload_n 1, 1) := by decide +kernel
theorem dL_law_279 : decode cL_law 279 = .ok (.aload_n 0, 1) := by decide +kernel
theorem dL_law_280 : decode cL_law 280 = .ok (.iload_n 3, 1) := by decide +kernel
theorem dL_law_281 : decode cL_law 281 = .ok (.iconst 1, 1) := by decide +kernel
theorem dL_law_282 : decode cL_law 282 = .ok (.iadd, 1) := by decide +kernel
theorem dL_law_283 : decode cL_law 283 = .ok (.iaload, 1) := by decide +kernel
theorem dL_law_284 : decode cL_law 284 = .ok (.invokevirtual 32, 3) := by decide +kernel
theorem dL_law_287 : decode cL_law 287 = .ok (.aload_n 2, 1) := by decide +kernel
theorem dL_law_288 : decode cL_law 288 = .ok (.aload_n 0, 1) := by decide +kernel
theorem dL_law_289 : decode cL_law 289 = .ok (.iload_n 3, 1) := by decide +kernel
theorem dL_law_290 : decode cL_law 290 = .ok (.iconst 1, 1) := by decide +kernel
theorem dL_law_291 : decode cL_law 291 = .ok (.iadd, 1) := by decide +kernel
theorem dL_law_292 : decode cL_law 292 = .ok (.iaload, 1) := by decide +kernel
theorem dL_law_293 : decode cL_law 293 = .ok (.invokevirtual 36, 3) := by decide +kernel
theorem dL_law_296 : decode cL_law 296 = .ok (.if_icmp .eq 603, 3) := by decide +kernel
theorem dL_law_299 : decode cL_law 299 = .ok (.iconst 0, 1) := by decide +kernel
theorem dL_law_300 : decode cL_law 300 = .ok (.ireturn, 1) := by decide +kernel
theorem dL_law_301 : decode cL_law 301 = .ok (.aload_n 1, 1) := by decide +kernel
theorem dL_law_302 : decode cL_law 302 = .ok (.aload_n 0, 1) := by decide +kernel
theorem dL_law_303 : decode cL_law 303 = .ok (.iload_n 3, 1) := by decide +kernel
theorem dL_law_304 : decode cL_law 304 = .ok (.iconst 1, 1) := by decide +kernel
theorem dL_law_305 : decode cL_law 305 = .ok (.iadd, 1) := by decide +kernel
theorem dL_law_306 : decode cL_law 306 = .ok (.iaload, 1) := by decide +kernel
theorem dL_law_307 : decode cL_law 307 = .ok (.invokevirtual 37, 3) := by decide +kernel
theorem dL_law_310 : decode cL_law 310 = .ok (.aload_n 2, 1) := by decide +kernel
theorem dL_law_311 : decode cL_law 311 = .ok (.aload_n 0, 1) := by decide +kernel
theorem dL_law_312 : decode cL_law 312 = .ok (.iload_n 3, 1) := by decide +kernel
theorem dL_law_313 : decode cL_law 313 = .ok (.iconst 1, 1) := by decide +kernel
theorem dL_law_314 : decode cL_law 314 = .ok (.iadd, 1) := by decide +kernel
theorem dL_law_315 : decode cL_law 315 = .ok (.iaload, 1) := by decide +kernel
theorem dL_law_316 : decode cL_law 316 = .ok (.invokevirtual 40, 3) := by decide +kernel
theorem dL_law_319 : decode cL_law 319 = .ok (.if_icmp .eq 580, 3) := by decide +kernel
theorem dL_law_322 : decode cL_law 322 = .ok (.iconst 0, 1) := by decide +kernel
theorem dL_law_323 : decode cL_law 323 = .ok (.ireturn, 1) := by decide +kernel
theorem dL_law_324 : decode cL_law 324 = .ok (.aload_n 1, 1) := by decide +kernel
theorem dL_law_325 : decode cL_law 325 = .ok (.aload_n 0, 1) := by decide +kernel
theorem dL_law_326 : decode cL_law 326 = .ok (.iload_n 3, 1) := by decide +kernel
theorem dL_law_327 : decode cL_law 327 = .ok (.iconst 1, 1) := by decide +kernel
theorem dL_law_328 : decode cL_law 328 = .ok (.iadd, 1) := by decide +kernel
theorem dL_law_329 : decode cL_law 329 = .ok (.iaload, 1) := by decide +kernel
theorem dL_law_330 : decode cL_law 330 = .ok (.aload_n 0, 1) := by decide +kernel
theorem dL_law_331 : decode cL_law 331 = .ok (.iload_n 3, 1) := by decide +kernel
theorem dL_law_332 : decode cL_law 332 = .ok (.iconst 2, 1) := by decide +kernel
theorem dL_law_333 : decode cL_law 333 = .ok (.iadd, 1) := by decide +kernel
theorem dL_law_334 : decode cL_law 334 = .ok (.iaload, 1) := by decide +kernel
theorem dL_law_335 : decode cL_law 335 = .ok (.invokevirtual 41, 3) := by decide +kernel
theorem dL_law_338 : decode cL_law 338 = .ok (.aload_n 2, 1) := by decide +kernel
theorem dL_law_339 : decode cL_law 339 = .ok (.aload_n 0, 1) := by decide +kernel
theorem dL_law_340 : decode cL_law 340 = .ok (.iload_n 3, 1) := by decide +kernel
theorem dL_law_341 : decode cL_law 341 = .ok (.iconst 1, 1) := by decide +kernel
theorem dL_law_342 : decode cL_law 342 = .ok (.iadd, 1) := by decide +kernel
theorem dL_law_343 : decode cL_law 343 = .ok (.iaload, 1) := by decide +kernel
theorem dL_law_344 : decode cL_law 344 = .ok (.aload_n 0, 1) := by decide +kernel
theorem dL_law_345 : decode cL_law 345 = .ok (.iload_n 3, 1) := by decide +kernel
theorem dL_law_346 : decode cL_law 346 = .ok (.iconst 2, 1) := by decide +kernel
theorem dL_law_347 : decode cL_law 347 = .ok (.iadd, 1) := by decide +kernel
theorem dL_law_348 : decode cL_law 348 = .ok (.iaload, 1) := by decide +kernel
theorem dL_law_349 : decode cL_law 349 = .ok (.invokevirtual 44, 3) := by decide +kernel
theorem dL_law_352 : decode cL_law 352 = .ok (.if_icmp .eq 547, 3) := by decide +kernel
theorem dL_law_355 : decode cL_law 355 = .ok (.iconst 0, 1) := by decide +kernel
theorem dL_law_356 : decode cL_law 356 = .ok (.ireturn, 1) := by decide +kernel
theorem dL_law_357 : decode cL_law 357 = .ok (.aload_n 1, 1) := by decide +kernel
theorem dL_law_358 : decode cL_law 358 = .ok (.aload_n 0, 1) := by decide +kernel
theorem dL_law_359 : decode cL_law 359 = .ok (.iload_n 3, 1) := by decide +kernel
theorem dL_law_360 : decode cL_law 360 = .ok (.iconst 1, 1) := by decide +kernel
theorem dL_law_361 : decode cL_law 361 = .ok (.iadd, 1) := by decide +kernel
theorem dL_law_362 : decode cL_law 362 = .ok (.iaload, 1) := by decide +kernel
theorem dL_law_363 : decode cL_law 363 = .ok (.aload_n 0, 1) := by decide +kernel
theorem dL_law_364 : decode cL_law 364 = .ok (.iload_n 3, 1) := by decide +kernel
theorem dL_law_365 : decode cL_law 365 = .ok (.iconst 2, 1) := by decide +kernel
theorem dL_law_366 : decode cL_law 366 = .ok (.iadd, 1) := by decide +kernel
theorem dL_law_367 : decode cL_law 367 = .ok (.iaload, 1) := by decide +kernel
theorem dL_law_368 : decode cL_law 368 = .ok (.aload_n 0, 1) := by decide +kernel
theorem dL_law_369 : decode cL_law 369 = .ok (.iload_n 3, 1) := by decide +kernel
theorem dL_law_370 : decode cL_law 370 = .ok (.iconst 3, 1) := by decide +kernel
theorem dL_law_371 : decode cL_law 371 = .ok (.iadd, 1) := by decide +kernel
theorem dL_law_372 : decode cL_law 372 = .ok (.iaload, 1) := by decide +kernel
theorem dL_law_373 : decode cL_law 373 = .ok (.invokevirtual 45, 3) := by decide +kernel
theorem dL_law_376 : decode cL_law 376 = .ok (.aload_n 2, 1) := by decide +kernel
theorem dL_law_377 : decode cL_law 377 = .ok (.aload_n 0, 1) := by decide +kernel
theorem dL_law_378 : decode cL_law 378 = .ok (.iload_n 3, 1) := by decide +kernel
theorem dL_law_379 : decode cL_law 379 = .ok (.iconst 1, 1) := by decide +kernel
theorem dL_law_380 : decode cL_law 380 = .ok (.iadd, 1) := by decide +kernel
theorem dL_law_381 : decode cL_law 381 = .ok (.iaload, 1) := by decide +kernel
theorem dL_law_382 : decode cL_law 382 = .ok (.aload_n 0, 1) := by decide +kernel
theorem dL_law_383 : decode cL_law 383 = .ok (.iload_n 3, 1) := by decide +kernel
theorem dL_law_384 : decode cL_law 384 = .ok (.iconst 2, 1) := by decide +kernel
theorem dL_law_385 : decode cL_law 385 = .ok (.iadd, 1) := by decide +kernel
theorem dL_law_386 : decode cL_law 386 = .ok (.iaload, 1) := by decide +kernel
theorem dL_law_387 : decode cL_law 387 = .ok (.aload_n 0, 1) := by decide +kernel
theorem dL_law_388 : decode cL_law 388 = .ok (.iload_n 3, 1) := by decide +kernel
theorem dL_law_389 : decode cL_law 389 = .ok (.iconst 3, 1) := by decide +kernel
theorem dL_law_390 : decode cL_law 390 = .ok (.iadd, 1) := by decide +kernel
theorem dL_law_391 : decode cL_law 391 = .ok (.iaload, 1) := by decide +kernel
theorem dL_law_392 : decode cL_law 392 = .ok (.invokevirtual 48, 3) := by decide +kernel
theorem dL_law_395 : decode cL_law 395 = .ok (.if_icmp .eq 504, 3) := by decide +kernel
theorem dL_law_398 : decode cL_law 398 = .ok (.iconst 0, 1) := by decide +kernel
theorem dL_law_399 : decode cL_law 399 = .ok (.ireturn, 1) := by decide +kernel
theorem dL_law_400 : decode cL_law 400 = .ok (.aload_n 1, 1) := by decide +kernel
theorem dL_law_401 : decode cL_law 401 = .ok (.aload_n 0, 1) := by decide +kernel
theorem dL_law_402 : decode cL_law 402 = .ok (.iload_n 3, 1) := by decide +kernel
theorem dL_law_403 : decode cL_law 403 = .ok (.iconst 1, 1) := by decide +kernel
theorem dL_law_404 : decode cL_law 404 = .ok (.iadd, 1) := by decide +kernel
theorem dL_law_405 : decode cL_law 405 = .ok (.iaload, 1) := by decide +kernel
theorem dL_law_406 : decode cL_law 406 = .ok (.aload_n 0, 1) := by decide +kernel
theorem dL_law_407 : decode cL_law 407 = .ok (.iload_n 3, 1) := by decide +kernel
theorem dL_law_408 : decode cL_law 408 = .ok (.iconst 2, 1) := by decide +kernel
theorem dL_law_409 : decode cL_law 409 = .ok (.iadd, 1) := by decide +kernel
theorem dL_law_410 : decode cL_law 410 = .ok (.iaload, 1) := by decide +kernel
theorem dL_law_411 : decode cL_law 411 = .ok (.invokevirtual 49, 3) := by decide +kernel
theorem dL_law_414 : decode cL_law 414 = .ok (.aload_n 2, 1) := by decide +kernel
theorem dL_law_415 : decode cL_law 415 = .ok (.aload_n 0, 1) := by decide +kernel
theorem dL_law_416 : decode cL_law 416 = .ok (.iload_n 3, 1) := by decide +kernel
theorem dL_law_417 : decode cL_law 417 = .ok (.iconst 1, 1) := by decide +kernel
theorem dL_law_418 : decode cL_law 418 = .ok (.iadd, 1) := by decide +kernel
theorem dL_law_419 : decode cL_law 419 = .ok (.iaload, 1) := by decide +kernel
theorem dL_law_420 : decode cL_law 420 = .ok (.aload_n 0, 1) := by decide +kernel
theorem dL_law_421 : decode cL_law 421 = .ok (.iload_n 3, 1) := by decide +kernel
theorem dL_law_422 : decode cL_law 422 = .ok (.iconst 2, 1) := by decide +kernel
theorem dL_law_423 : decode cL_law 423 = .ok (.iadd, 1) := by decide +kernel
theorem dL_law_424 : decode cL_law 424 = .ok (.iaload, 1) := by decide +kernel
theorem dL_law_425 : decode cL_law 425 = .ok (.invokevirtual 52, 3) := by decide +kernel
theorem dL_law_428 : decode cL_law 428 = .ok (.if_icmp .eq 471, 3) := by decide +kernel
theorem dL_law_431 : decode cL_law 431 = .ok (.iconst 0, 1) := by decide +kernel
theorem dL_law_432 : decode cL_law 432 = .ok (.ireturn, 1) := by decide +kernel
theorem dL_law_433 : decode cL_law 433 = .ok (.aload_n 1, 1) := by decide +kernel
theorem dL_law_434 : decode cL_law 434 = .ok (.aload_n 0, 1) := by decide +kernel
theorem dL_law_435 : decode cL_law 435 = .ok (.iload_n 3, 1) := by decide +kernel
theorem dL_law_436 : decode cL_law 436 = .ok (.iconst 1, 1) := by decide +kernel
theorem dL_law_437 : decode cL_law 437 = .ok (.iadd, 1) := by decide +kernel
theorem dL_law_438 : decode cL_law 438 = .ok (.iaload, 1) := by decide +kernel
theorem dL_law_439 : decode cL_law 439 = .ok (.aload_n 0, 1) := by decide +kernel
theorem dL_law_440 : decode cL_law 440 = .ok (.iload_n 3, 1) := by decide +kernel
theorem dL_law_441 : decode cL_law 441 = .ok (.iconst 2, 1) := by decide +kernel
theorem dL_law_442 : decode cL_law 442 = .ok (.iadd, 1) := by decide +kernel
theorem dL_law_443 : decode cL_law 443 = .ok (.iaload, 1) := by decide +kernel
theorem dL_law_444 : decode cL_law 444 = .ok (.invokevirtual 53, 3) := by decide +kernel
theorem dL_law_447 : decode cL_law 447 = .ok (.aload_n 2, 1) := by decide +kernel
theorem dL_law_448 : decode cL_law 448 = .ok (.aload_n 0, 1) := by decide +kernel
theorem dL_law_449 : decode cL_law 449 = .ok (.iload_n 3, 1) := by decide +kernel
theorem dL_law_450 : decode cL_law 450 = .ok (.iconst 1, 1) := by decide +kernel
theorem dL_law_451 : decode cL_law 451 = .ok (.iadd, 1) := by decide +kernel
theorem dL_law_452 : decode cL_law 452 = .ok (.iaload, 1) := by decide +kernel
theorem dL_law_453 : decode cL_law 453 = .ok (.aload_n 0, 1) := by decide +kernel
theorem dL_law_454 : decode cL_law 454 = .ok (.iload_n 3, 1) := by decide +kernel
theorem dL_law_455 : decode cL_law 455 = .ok (.iconst 2, 1) := by decide +kernel
theorem dL_law_456 : decode cL_law 456 = .ok (.iadd, 1) := by decide +kernel
theorem dL_law_457 : decode cL_law 457 = .ok (.iaload, 1) := by decide +kernel
theorem dL_law_458 : decode cL_law 458 = .ok (.invokevirtual 56, 3) := by decide +kernel
theorem dL_law_461 : decode cL_law 461 = .ok (.if_icmp .eq 438, 3) := by decide +kernel
theorem dL_law_464 : decode cL_law 464 = .ok (.iconst 0, 1) := by decide +kernel
theorem dL_law_465 : decode cL_law 465 = .ok (.ireturn, 1) := by decide +kernel
theorem dL_law_466 : decode cL_law 466 = .ok (.aload_n 1, 1) := by decide +kernel
theorem dL_law_467 : decode cL_law 467 = .ok (.aload_n 0, 1) := by decide +kernel
theorem dL_law_468 : decode cL_law 468 = .ok (.iload_n 3, 1) := by decide +kernel
theorem dL_law_469 : decode cL_law 469 = .ok (.iconst 1, 1) := by decide +kernel
theorem dL_law_470 : decode cL_law 470 = .ok (.iadd, 1) := by decide +kernel
theorem dL_law_471 : decode cL_law 471 = .ok (.iaload, 1) := by decide +kernel
theorem dL_law_472 : decode cL_law 472 = .ok (.aload_n 0, 1) := by decide +kernel
theorem dL_law_473 : decode cL_law 473 = .ok (.iload_n 3, 1) := by decide +kernel
theorem dL_law_474 : decode cL_law 474 = .ok (.iconst 2, 1) := by decide +kernel
theorem dL_law_475 : decode cL_law 475 = .ok (.iadd, 1) := by decide +kernel
theorem dL_law_476 : decode cL_law 476 = .ok (.iaload, 1) := by decide +kernel
theorem dL_law_477 : decode cL_law 477 = .ok (.invokevirtual 57, 3) := by decide +kernel
theorem dL_law_480 : decode cL_law 480 = .ok (.aload_n 2, 1) := by decide +kernel
theorem dL_law_481 : decode cL_law 481 = .ok (.aload_n 0, 1) := by decide +kernel
theorem dL_law_482 : decode cL_law 482 = .ok (.iload_n 3, 1) := by decide +kernel
theorem dL_law_483 : decode cL_law 483 = .ok (.iconst 1, 1) := by decide +kernel
theorem dL_law_484 : decode cL_law 484 = .ok (.iadd, 1) := by decide +kernel
theorem dL_law_485 : decode cL_law 485 = .ok (.iaload, 1) := by decide +kernel
theorem dL_law_486 : decode cL_law 486 = .ok (.aload_n 0, 1) := by decide +kernel
theorem dL_law_487 : decode cL_law 487 = .ok (.iload_n 3, 1) := by decide +kernel
theorem dL_law_488 : decode cL_law 488 = .ok (.iconst 2, 1) := by decide +kernel
theorem dL_law_489 : decode cL_law 489 = .ok (.iadd, 1) := by decide +kernel
theorem dL_law_490 : decode cL_law 490 = .ok (.iaload, 1) := by decide +kernel
theorem dL_law_491 : decode cL_law 491 = .ok (.invokevirtual 60, 3) := by decide +kernel
theorem dL_law_494 : decode cL_law 494 = .ok (.if_icmp .eq 405, 3) := by decide +kernel
theorem dL_law_497 : decode cL_law 497 = .ok (.iconst 0, 1) := by decide +kernel
theorem dL_law_498 : decode cL_law 498 = .ok (.ireturn, 1) := by decide +kernel
theorem dL_law_499 : decode cL_law 499 = .ok (.aload_n 1, 1) := by decide +kernel
theorem dL_law_500 : decode cL_law 500 = .ok (.aload_n 0, 1) := by decide +kernel
theorem dL_law_501 : decode cL_law 501 = .ok (.iload_n 3, 1) := by decide +kernel
theorem dL_law_502 : decode cL_law 502 = .ok (.iconst 1, 1) := by decide +kernel
theorem dL_law_503 : decode cL_law 503 = .ok (.iadd, 1) := by decide +kernel
theorem dL_law_504 : decode cL_law 504 = .ok (.iaload, 1) := by decide +kernel
theorem dL_law_505 : decode cL_law 505 = .ok (.aload_n 0, 1) := by decide +kernel
theorem dL_law_506 : decode cL_law 506 = .ok (.iload_n 3, 1) := by decide +kernel
theorem dL_law_507 : decode cL_law 507 = .ok (.iconst 2, 1) := by decide +kernel
theorem dL_law_508 : decode cL_law 508 = .ok (.iadd, 1) := by decide +kernel
theorem dL_law_509 : decode cL_law 509 = .ok (.iaload, 1) := by decide +kernel
theorem dL_law_510 : decode cL_law 510 = .ok (.invokevirtual 61, 3) := by decide +kernel
theorem dL_law_513 : decode cL_law 513 = .ok (.aload_n 2, 1) := by decide +kernel
theorem dL_law_514 : decode cL_law 514 = .ok (.aload_n 0, 1) := by decide +kernel
theorem dL_law_515 : decode cL_law 515 = .ok (.iload_n 3, 1) := by decide +kernel
theorem dL_law_516 : decode cL_law 516 = .ok (.iconst 1, 1) := by decide +kernel
theorem dL_law_517 : decode cL_law 517 = .ok (.iadd, 1) := by decide +kernel
theorem dL_law_518 : decode cL_law 518 = .ok (.iaload, 1) := by decide +kernel
theorem dL_law_519 : decode cL_law 519 = .ok (.aload_n 0, 1) := by decide +kernel
theorem dL_law_520 : decode cL_law 520 = .ok (.iload_n 3, 1) := by decide +kernel
theorem dL_law_521 : decode cL_law 521 = .ok (.iconst 2, 1) := by decide +kernel
theorem dL_law_522 : decode cL_law 522 = .ok (.iadd, 1) := by decide +kernel
theorem dL_law_523 : decode cL_law 523 = .ok (.iaload, 1) := by decide +kernel
theorem dL_law_524 : decode cL_law 524 = .ok (.invokevirtual 64, 3) := by decide +kernel
theorem dL_law_527 : decode cL_law 527 = .ok (.if_icmp .eq 372, 3) := by decide +kernel
theorem dL_law_530 : decode cL_law 530 = .ok (.iconst 0, 1) := by decide +kernel
theorem dL_law_531 : decode cL_law 531 = .ok (.ireturn, 1) := by decide +kernel
theorem dL_law_532 : decode cL_law 532 = .ok (.aload_n 1, 1) := by decide +kernel
theorem dL_law_533 : decode cL_law 533 = .ok (.aload_n 0, 1) := by decide +kernel
theorem dL_law_534 : decode cL_law 534 = .ok (.iload_n 3, 1) := by decide +kernel
theorem dL_law_535 : decode cL_law 535 = .ok (.iconst 1, 1) := by decide +kernel
theorem dL_law_536 : decode cL_law 536 = .ok (.iadd, 1) := by decide +kernel
theorem dL_law_537 : decode cL_law 537 = .ok (.iaload, 1) := by decide +kernel
theorem dL_law_538 : decode cL_law 538 = .ok (.i2c, 1) := by decide +kernel
theorem dL_law_539 : decode cL_law 539 = .ok (.invokevirtual 65, 3) := by decide +kernel
theorem dL_law_542 : decode cL_law 542 = .ok (.aload_n 2, 1) := by decide +kernel
theorem dL_law_543 : decode cL_law 543 = .ok (.aload_n 0, 1) := by decide +kernel
theorem dL_law_544 : decode cL_law 544 = .ok (.iload_n 3, 1) := by decide +kernel
theorem dL_law_545 : decode cL_law 545 = .ok (.iconst 1, 1) := by decide +kernel
theorem dL_law_546 : decode cL_law 546 = .ok (.iadd, 1) := by decide +kernel
theorem dL_law_547 : decode cL_law 547 = .ok (.iaload, 1) := by decide +kernel
theorem dL_law_548 : decode cL_law 548 = .ok (.i2c, 1) := by decide +kernel
theorem dL_law_549 : decode cL_law 549 = .ok (.invokevirtual 69, 3) := by decide +kernel
theorem dL_law_552 : decode cL_law 552 = .ok (.if_icmp .eq 347, 3) := by decide +kernel
theorem dL_law_555 : decode cL_law 555 = .ok (.iconst 0, 1) := by decide +kernel
theorem dL_law_556 : decode cL_law 556 = .ok (.ireturn, 1) := by decide +kernel
theorem dL_law_557 : decode cL_law 557 = .ok (.aload_n 1, 1) := by decide +kernel
theorem dL_law_558 : decode cL_law 558 = .ok (.invokevirtual 70, 3) := by decide +kernel
theorem dL_law_561 : decode cL_law 561 = .ok (.aload_n 2, 1) := by decide +kernel
theorem dL_law_562 : decode cL_law 562 = .ok (.invokevirtual 73, 3) := by decide +kernel
theorem dL_law_565 : decode cL_law 565 = .ok (.if_icmp .eq 334, 3) := by decide +kernel
theorem dL_law_568 : decode cL_law 568 = .ok (.iconst 0, 1) := by decide +kernel
theorem dL_law_569 : decode cL_law 569 = .ok (.ireturn, 1) := by decide +kernel
theorem dL_law_570 : decode cL_law 570 = .ok (.aload_n 1, 1) := by decide +kernel
theorem dL_law_571 : decode cL_law 571 = .ok (.aload_n 0, 1) := by decide +kernel
theorem dL_law_572 : decode cL_law 572 = .ok (.iload_n 3, 1) := by decide +kernel
theorem dL_law_573 : decode cL_law 573 = .ok (.iconst 1, 1) := by decide +kernel
theorem dL_law_574 : decode cL_law 574 = .ok (.iadd, 1) := by decide +kernel
theorem dL_law_575 : decode cL_law 575 = .ok (.iaload, 1) := by decide +kernel
theorem dL_law_576 : decode cL_law 576 = .ok (.aload_n 0, 1) := by decide +kernel
theorem dL_law_577 : decode cL_law 577 = .ok (.iload_n 3, 1) := by decide +kernel
theorem dL_law_578 : decode cL_law 578 = .ok (.iconst 2, 1) := by decide +kernel
theorem dL_law_579 : decode cL_law 579 = .ok (.iadd, 1) := by decide +kernel
theorem dL_law_580 : decode cL_law 580 = .ok (.iaload, 1) := by decide +kernel
theorem dL_law_581 : decode cL_law 581 = .ok (.invokevirtual 74, 3) := by decide +kernel
theorem dL_law_584 : decode cL_law 584 = .ok (.aload_n 2, 1) := by decide +kernel
theorem dL_law_585 : decode cL_law 585 = .ok (.aload_n 0, 1) := by decide +kernel
theorem dL_law_586 : decode cL_law 586 = .ok (.iload_n 3, 1) := by decide +kernel
theorem dL_law_587 : decode cL_law 587 = .ok (.iconst 1, 1) := by decide +kernel
theorem dL_law_588 : decode cL_law 588 = .ok (.iadd, 1) := by decide +kernel
theorem dL_law_589 : decode cL_law 589 = .ok (.iaload, 1) := by decide +kernel
theorem dL_law_590 : decode cL_law 590 = .ok (.aload_n 0, 1) := by decide +kernel
theorem dL_law_591 : decode cL_law 591 = .ok (.iload_n 3, 1) := by decide +kernel
theorem dL_law_592 : decode cL_law 592 = .ok (.iconst 2, 1) := by decide +kernel
theorem dL_law_593 : decode cL_law 593 = .ok (.iadd, 1) := by decide +kernel
theorem dL_law_594 : decode cL_law 594 = .ok (.iaload, 1) := by decide +kernel
theorem dL_law_595 : decode cL_law 595 = .ok (.invokevirtual 77, 3) := by decide +kernel
theorem dL_law_598 : decode cL_law 598 = .ok (.if_icmp .eq 301, 3) := by decide +kernel
theorem dL_law_601 : decode cL_law 601 = .ok (.iconst 0, 1) := by decide +kernel
theorem dL_law_602 : decode cL_law 602 = .ok (.ireturn, 1) := by decide +kernel
theorem dL_law_603 : decode cL_law 603 = .ok (.aload_n 1, 1) := by decide +kernel
theorem dL_law_604 : decode cL_law 604 = .ok (.invokevirtual 78, 3) := by decide +kernel
theorem dL_law_607 : decode cL_law 607 = .ok (.aload_n 2, 1) := by decide +kernel
theorem dL_law_608 : decode cL_law 608 = .ok (.invokevirtual 81, 3) := by decide +kernel
theorem dL_law_611 : decode cL_law 611 = .ok (.if_icmp .eq 288, 3) := by decide +kernel
theorem dL_law_614 : decode cL_law 614 = .ok (.iconst 0, 1) := by decide +kernel
theorem dL_law_615 : decode cL_law 615 = .ok (.ireturn, 1) := by decide +kernel
theorem dL_law_616 : decode cL_law 616 = .ok (.aload_n 1, 1) := by decide +kernel
theorem dL_law_617 : decode cL_law 617 = .ok (.invokevirtual 82, 3) := by decide +kernel
theorem dL_law_620 : decode cL_law 620 = .ok (.aload_n 2, 1) := by decide +kernel
theorem dL_law_621 : decode cL_law 621 = .ok (.invokevirtual 85, 3) := by decide +kernel
theorem dL_law_624 : decode cL_law 624 = .ok (.if_icmp .eq 275, 3) := by decide +kernel
theorem dL_law_627 : decode cL_law 627 = .ok (.iconst 0, 1) := by decide +kernel
theorem dL_law_628 : decode cL_law 628 = .ok (.ireturn, 1) := by decide +kernel
theorem dL_law_629 : decode cL_law 629 = .ok (.aload_n 1, 1) := by decide +kernel
theorem dL_law_630 : decode cL_law 630 = .ok (.invokevirtual 86, 3) := by decide +kernel
theorem dL_law_633 : decode cL_law 633 = .ok (.aload_n 2, 1) := by decide +kernel
theorem dL_law_634 : decode cL_law 634 = .ok (.invokevirtual 89, 3) := by decide +kernel
theorem dL_law_637 : decode cL_law 637 = .ok (.if_icmp .eq 262, 3) := by decide +kernel
theorem dL_law_640 : decode cL_law 640 = .ok (.iconst 0, 1) := by decide +kernel
theorem dL_law_641 : decode cL_law 641 = .ok (.ireturn, 1) := by decide +kernel
theorem dL_law_642 : decode cL_law 642 = .ok (.aload_n 1, 1) := by decide +kernel
theorem dL_law_643 : decode cL_law 643 = .ok (.aload_n 0, 1) := by decide +kernel
theorem dL_law_644 : decode cL_law 644 = .ok (.iload_n 3, 1) := by decide +kernel
theorem dL_law_645 : decode cL_law 645 = .ok (.iconst 1, 1) := by decide +kernel
theorem dL_law_646 : decode cL_law 646 = .ok (.iadd, 1) := by decide +kernel
theorem dL_law_647 : decode cL_law 647 = .ok (.iaload, 1) := by decide +kernel
theorem dL_law_648 : decode cL_law 648 = .ok (.aload_n 0, 1) := by decide +kernel
theorem dL_law_649 : decode cL_law 649 = .ok (.iload_n 3, 1) := by decide +kernel
theorem dL_law_650 : decode cL_law 650 = .ok (.iconst 2, 1) := by decide +kernel
theorem dL_law_651 : decode cL_law 651 = .ok (.iadd, 1) := by decide +kernel
theorem dL_law_652 : decode cL_law 652 = .ok (.iaload, 1) := by decide +kernel
theorem dL_law_653 : decode cL_law 653 = .ok (.invokevirtual 90, 3) := by decide +kernel
theorem dL_law_656 : decode cL_law 656 = .ok (.aload_n 2, 1) := by decide +kernel
theorem dL_law_657 : decode cL_law 657 = .ok (.aload_n 0, 1) := by decide +kernel
theorem dL_law_658 : decode cL_law 658 = .ok (.iload_n 3, 1) := by decide +kernel
theorem dL_law_659 : decode cL_law 659 = .ok (.iconst 1, 1) := by decide +kernel
theorem dL_law_660 : decode cL_law 660 = .ok (.iadd, 1) := by decide +kernel
theorem dL_law_661 : decode cL_law 661 = .ok (.iaload, 1) := by decide +kernel
theorem dL_law_662 : decode cL_law 662 = .ok (.aload_n 0, 1) := by decide +kernel
theorem dL_law_663 : decode cL_law 663 = .ok (.iload_n 3, 1) := by decide +kernel
theorem dL_law_664 : decode cL_law 664 = .ok (.iconst 2, 1) := by decide +kernel
theorem dL_law_665 : decode cL_law 665 = .ok (.iadd, 1) := by decide +kernel
theorem dL_law_666 : decode cL_law 666 = .ok (.iaload, 1) := by decide +kernel
theorem dL_law_667 : decode cL_law 667 = .ok (.invokevirtual 93, 3) := by decide +kernel
theorem dL_law_670 : decode cL_law 670 = .ok (.if_icmp .eq 229, 3) := by decide +kernel
theorem dL_law_673 : decode cL_law 673 = .ok (.iconst 0, 1) := by decide +kernel
theorem dL_law_674 : decode cL_law 674 = .ok (.ireturn, 1) := by decide +kernel
theorem dL_law_675 : decode cL_law 675 = .ok (.aload_n 1, 1) := by decide +kernel
theorem dL_law_676 : decode cL_law 676 = .ok (.aload_n 0, 1) := by decide +kernel
theorem dL_law_677 : decode cL_law 677 = .ok (.iload_n 3, 1) := by decide +kernel
theorem dL_law_678 : decode cL_law 678 = .ok (.iconst 1, 1) := by decide +kernel
theorem dL_law_679 : decode cL_law 679 = .ok (.iadd, 1) := by decide +kernel
theorem dL_law_680 : decode cL_law 680 = .ok (.iaload, 1) := by decide +kernel
theorem dL_law_681 : decode cL_law 681 = .ok (.aload_n 0, 1) := by decide +kernel
theorem dL_law_682 : decode cL_law 682 = .ok (.iload_n 3, 1) := by decide +kernel
theorem dL_law_683 : decode cL_law 683 = .ok (.iconst 2, 1) := by decide +kernel
theorem dL_law_684 : decode cL_law 684 = .ok (.iadd, 1) := by decide +kernel
theorem dL_law_685 : decode cL_law 685 = .ok (.iaload, 1) := by decide +kernel
theorem dL_law_686 : decode cL_law 686 = .ok (.invokevirtual 94, 3) := by decide +kernel
theorem dL_law_689 : decode cL_law 689 = .ok (.aload_n 2, 1) := by decide +kernel
theorem dL_law_690 : decode cL_law 690 = .ok (.aload_n 0, 1) := by decide +kernel
theorem dL_law_691 : decode cL_law 691 = .ok (.iload_n 3, 1) := by decide +kernel
theorem dL_law_692 : decode cL_law 692 = .ok (.iconst 1, 1) := by decide +kernel
theorem dL_law_693 : decode cL_law 693 = .ok (.iadd, 1) := by decide +kernel
theorem dL_law_694 : decode cL_law 694 = .ok (.iaload, 1) := by decide +kernel
theorem dL_law_695 : decode cL_law 695 = .ok (.aload_n 0, 1) := by decide +kernel
theorem dL_law_696 : decode cL_law 696 = .ok (.iload_n 3, 1) := by decide +kernel
theorem dL_law_697 : decode cL_law 697 = .ok (.iconst 2, 1) := by decide +kernel
theorem dL_law_698 : decode cL_law 698 = .ok (.iadd, 1) := by decide +kernel
theorem dL_law_699 : decode cL_law 699 = .ok (.iaload, 1) := by decide +kernel
theorem dL_law_700 : decode cL_law 700 = .ok (.invokevirtual 97, 3) := by decide +kernel
theorem dL_law_703 : decode cL_law 703 = .ok (.if_icmp .eq 196, 3) := by decide +kernel
theorem dL_law_706 : decode cL_law 706 = .ok (.iconst 0, 1) := by decide +kernel
theorem dL_law_707 : decode cL_law 707 = .ok (.ireturn, 1) := by decide +kernel
theorem dL_law_708 : decode cL_law 708 = .ok (.aload_n 1, 1) := by decide +kernel
theorem dL_law_709 : decode cL_law 709 = .ok (.aload_n 0, 1) := by decide +kernel
theorem dL_law_710 : decode cL_law 710 = .ok (.iload_n 3, 1) := by decide +kernel
theorem dL_law_711 : decode cL_law 711 = .ok (.iconst 1, 1) := by decide +kernel
theorem dL_law_712 : decode cL_law 712 = .ok (.iadd, 1) := by decide +kernel
theorem dL_law_713 : decode cL_law 713 = .ok (.iaload, 1) := by decide +kernel
theorem dL_law_714 : decode cL_law 714 = .ok (.aload_n 0, 1) := by decide +kernel
theorem dL_law_715 : decode cL_law 715 = .ok (.iload_n 3, 1) := by decide +kernel
theorem dL_law_716 : decode cL_law 716 = .ok (.iconst 2, 1) := by decide +kernel
theorem dL_law_717 : decode cL_law 717 = .ok (.iadd, 1) := by decide +kernel
theorem dL_law_718 : decode cL_law 718 = .ok (.iaload, 1) := by decide +kernel
theorem dL_law_719 : decode cL_law 719 = .ok (.invokevirtual 98, 3) := by decide +kernel
theorem dL_law_722 : decode cL_law 722 = .ok (.aload_n 2, 1) := by decide +kernel
theorem dL_law_723 : decode cL_law 723 = .ok (.aload_n 0, 1) := by decide +kernel
theorem dL_law_724 : decode cL_law 724 = .ok (.iload_n 3, 1) := by decide +kernel
theorem dL_law_725 : decode cL_law 725 = .ok (.iconst 1, 1) := by decide +kernel
theorem dL_law_726 : decode cL_law 726 = .ok (.iadd, 1) := by decide +kernel
theorem dL_law_727 : decode cL_law 727 = .ok (.iaload, 1) := by decide +kernel
theorem dL_law_728 : decode cL_law 728 = .ok (.aload_n 0, 1) := by decide +kernel
theorem dL_law_729 : decode cL_law 729 = .ok (.iload_n 3, 1) := by decide +kernel
theorem dL_law_730 : decode cL_law 730 = .ok (.iconst 2, 1) := by decide +kernel
theorem dL_law_731 : decode cL_law 731 = .ok (.iadd, 1) := by decide +kernel
theorem dL_law_732 : decode cL_law 732 = .ok (.iaload, 1) := by decide +kernel
theorem dL_law_733 : decode cL_law 733 = .ok (.invokevirtual 101, 3) := by decide +kernel
theorem dL_law_736 : decode cL_law 736 = .ok (.if_icmp .eq 163, 3) := by decide +kernel
theorem dL_law_739 : decode cL_law 739 = .ok (.iconst 0, 1) := by decide +kernel
theorem dL_law_740 : decode cL_law 740 = .ok (.ireturn, 1) := by decide +kernel
theorem dL_law_741 : decode cL_law 741 = .ok (.aload_n 1, 1) := by decide +kernel
theorem dL_law_742 : decode cL_law 742 = .ok (.aload_n 0, 1) := by decide +kernel
theorem dL_law_743 : decode cL_law 743 = .ok (.iload_n 3, 1) := by decide +kernel
theorem dL_law_744 : decode cL_law 744 = .ok (.iconst 1, 1) := by decide +kernel
theorem dL_law_745 : decode cL_law 745 = .ok (.iadd, 1) := by decide +kernel
theorem dL_law_746 : decode cL_law 746 = .ok (.iaload, 1) := by decide +kernel
theorem dL_law_747 : decode cL_law 747 = .ok (.aload_n 0, 1) := by decide +kernel
theorem dL_law_748 : decode cL_law 748 = .ok (.iload_n 3, 1) := by decide +kernel
theorem dL_law_749 : decode cL_law 749 = .ok (.iconst 2, 1) := by decide +kernel
theorem dL_law_750 : decode cL_law 750 = .ok (.iadd, 1) := by decide +kernel
theorem dL_law_751 : decode cL_law 751 = .ok (.iaload, 1) := by decide +kernel
theorem dL_law_752 : decode cL_law 752 = .ok (.invokevirtual 102, 3) := by decide +kernel
theorem dL_law_755 : decode cL_law 755 = .ok (.aload_n 2, 1) := by decide +kernel
theorem dL_law_756 : decode cL_law 756 = .ok (.aload_n 0, 1) := by decide +kernel
theorem dL_law_757 : decode cL_law 757 = .ok (.iload_n 3, 1) := by decide +kernel
theorem dL_law_758 : decode cL_law 758 = .ok (.iconst 1, 1) := by decide +kernel
theorem dL_law_759 : decode cL_law 759 = .ok (.iadd, 1) := by decide +kernel
theorem dL_law_760 : decode cL_law 760 = .ok (.iaload, 1) := by decide +kernel
theorem dL_law_761 : decode cL_law 761 = .ok (.aload_n 0, 1) := by decide +kernel
theorem dL_law_762 : decode cL_law 762 = .ok (.iload_n 3, 1) := by decide +kernel
theorem dL_law_763 : decode cL_law 763 = .ok (.iconst 2, 1) := by decide +kernel
theorem dL_law_764 : decode cL_law 764 = .ok (.iadd, 1) := by decide +kernel
theorem dL_law_765 : decode cL_law 765 = .ok (.iaload, 1) := by decide +kernel
theorem dL_law_766 : decode cL_law 766 = .ok (.invokevirtual 105, 3) := by decide +kernel
theorem dL_law_769 : decode cL_law 769 = .ok (.if_icmp .eq 130, 3) := by decide +kernel
theorem dL_law_772 : decode cL_law 772 = .ok (.iconst 0, 1) := by decide +kernel
theorem dL_law_773 : decode cL_law 773 = .ok (.ireturn, 1) := by decide +kernel
theorem dL_law_774 : decode cL_law 774 = .ok (.aload_n 1, 1) := by decide +kernel
theorem dL_law_775 : decode cL_law 775 = .ok (.aload_n 0, 1) := by decide +kernel
theorem dL_law_776 : decode cL_law 776 = .ok (.iload_n 3, 1) := by decide +kernel
theorem dL_law_777 : decode cL_law 777 = .ok (.iconst 1, 1) := by decide +kernel
theorem dL_law_778 : decode cL_law 778 = .ok (.iadd, 1) := by decide +kernel
theorem dL_law_779 : decode cL_law 779 = .ok (.iaload, 1) := by decide +kernel
theorem dL_law_780 : decode cL_law 780 = .ok (.invokevirtual 106, 3) := by decide +kernel
theorem dL_law_783 : decode cL_law 783 = .ok (.aload_n 2, 1) := by decide +kernel
theorem dL_law_784 : decode cL_law 784 = .ok (.aload_n 0, 1) := by decide +kernel
theorem dL_law_785 : decode cL_law 785 = .ok (.iload_n 3, 1) := by decide +kernel
theorem dL_law_786 : decode cL_law 786 = .ok (.iconst 1, 1) := by decide +kernel
theorem dL_law_787 : decode cL_law 787 = .ok (.iadd, 1) := by decide +kernel
theorem dL_law_788 : decode cL_law 788 = .ok (.iaload, 1) := by decide +kernel
theorem dL_law_789 : decode cL_law 789 = .ok (.invokevirtual 109, 3) := by decide +kernel
theorem dL_law_792 : decode cL_law 792 = .ok (.if_icmp .eq 107, 3) := by decide +kernel
theorem dL_law_795 : decode cL_law 795 = .ok (.iconst 0, 1) := by decide +kernel
theorem dL_law_796 : decode cL_law 796 = .ok (.ireturn, 1) := by decide +kernel
theorem dL_law_797 : decode cL_law 797 = .ok (.aload_n 1, 1) := by decide +kernel
theorem dL_law_798 : decode cL_law 798 = .ok (.aload_n 0, 1) := by decide +kernel
theorem dL_law_799 : decode cL_law 799 = .ok (.iload_n 3, 1) := by decide +kernel
theorem dL_law_800 : decode cL_law 800 = .ok (.iconst 1, 1) := by decide +kernel
theorem dL_law_801 : decode cL_law 801 = .ok (.iadd, 1) := by decide +kernel
theorem dL_law_802 : decode cL_law 802 = .ok (.iaload, 1) := by decide +kernel
theorem dL_law_803 : decode cL_law 803 = .ok (.invokevirtual 110, 3) := by decide +kernel
theorem dL_law_806 : decode cL_law 806 = .ok (.aload_n 2, 1) := by decide +kernel
theorem dL_law_807 : decode cL_law 807 = .ok (.aload_n 0, 1) := by decide +kernel
theorem dL_law_808 : decode cL_law 808 = .ok (.iload_n 3, 1) := by decide +kernel
theorem dL_law_809 : decode cL_law 809 = .ok (.iconst 1, 1) := by decide +kernel
theorem dL_law_810 : decode cL_law 810 = .ok (.iadd, 1) := by decide +kernel
theorem dL_law_811 : decode cL_law 811 = .ok (.iaload, 1) := by decide +kernel
theorem dL_law_812 : decode cL_law 812 = .ok (.invokevirtual 113, 3) := by decide +kernel
theorem dL_law_815 : decode cL_law 815 = .ok (.if_icmp .eq 84, 3) := by decide +kernel
theorem dL_law_818 : decode cL_law 818 = .ok (.iconst 0, 1) := by decide +kernel
theorem dL_law_819 : decode cL_law 819 = .ok (.ireturn, 1) := by decide +kernel
theorem dL_law_820 : decode cL_law 820 = .ok (.aload_n 1, 1) := by decide +kernel
theorem dL_law_821 : decode cL_law 821 = .ok (.aload_n 0, 1) := by decide +kernel
theorem dL_law_822 : decode cL_law 822 = .ok (.iload_n 3, 1) := by decide +kernel
theorem dL_law_823 : decode cL_law 823 = .ok (.iconst 1, 1) := by decide +kernel
theorem dL_law_824 : decode cL_law 824 = .ok (.iadd, 1) := by decide +kernel
theorem dL_law_825 : decode cL_law 825 = .ok (.iaload, 1) := by decide +kernel
theorem dL_law_826 : decode cL_law 826 = .ok (.aload_n 0, 1) := by decide +kernel
theorem dL_law_827 : decode cL_law 827 = .ok (.iload_n 3, 1) := by decide +kernel
theorem dL_law_828 : decode cL_law 828 = .ok (.iconst 2, 1) := by decide +kernel
theorem dL_law_829 : decode cL_law 829 = .ok (.iadd, 1) := by decide +kernel
theorem dL_law_830 : decode cL_law 830 = .ok (.iaload, 1) := by decide +kernel
theorem dL_law_831 : decode cL_law 831 = .ok (.invokevirtual 114, 3) := by decide +kernel
theorem dL_law_834 : decode cL_law 834 = .ok (.aload_n 2, 1) := by decide +kernel
theorem dL_law_835 : decode cL_law 835 = .ok (.aload_n 0, 1) := by decide +kernel
theorem dL_law_836 : decode cL_law 836 = .ok (.iload_n 3, 1) := by decide +kernel
theorem dL_law_837 : decode cL_law 837 = .ok (.iconst 1, 1) := by decide +kernel
theorem dL_law_838 : decode cL_law 838 = .ok (.iadd, 1) := by decide +kernel
theorem dL_law_839 : decode cL_law 839 = .ok (.iaload, 1) := by decide +kernel
theorem dL_law_840 : decode cL_law 840 = .ok (.aload_n 0, 1) := by decide +kernel
theorem dL_law_841 : decode cL_law 841 = .ok (.iload_n 3, 1) := by decide +kernel
theorem dL_law_842 : decode cL_law 842 = .ok (.iconst 2, 1) := by decide +kernel
theorem dL_law_843 : decode cL_law 843 = .ok (.iadd, 1) := by decide +kernel
theorem dL_law_844 : decode cL_law 844 = .ok (.iaload, 1) := by decide +kernel
theorem dL_law_845 : decode cL_law 845 = .ok (.invokevirtual 117, 3) := by decide +kernel
theorem dL_law_848 : decode cL_law 848 = .ok (.if_icmp .eq 51, 3) := by decide +kernel
theorem dL_law_851 : decode cL_law 851 = .ok (.iconst 0, 1) := by decide +kernel
theorem dL_law_852 : decode cL_law 852 = .ok (.ireturn, 1) := by decide +kernel
theorem dL_law_853 : decode cL_law 853 = .ok (.aload_n 1, 1) := by decide +kernel
theorem dL_law_854 : decode cL_law 854 = .ok (.aload_n 0, 1) := by decide +kernel
theorem dL_law_855 : decode cL_law 855 = .ok (.iload_n 3, 1) := by decide +kernel
theorem dL_law_856 : decode cL_law 856 = .ok (.iconst 1, 1) := by decide +kernel
theorem dL_law_857 : decode cL_law 857 = .ok (.iadd, 1) := by decide +kernel
theorem dL_law_858 : decode cL_law 858 = .ok (.iaload, 1) := by decide +kernel
theorem dL_law_859 : decode cL_law 859 = .ok (.invokevirtual 118, 3) := by decide +kernel
theorem dL_law_862 : decode cL_law 862 = .ok (.aload_n 2, 1) := by decide +kernel
theorem dL_law_863 : decode cL_law 863 = .ok (.aload_n 0, 1) := by decide +kernel
theorem dL_law_864 : decode cL_law 864 = .ok (.iload_n 3, 1) := by decide +kernel
theorem dL_law_865 : decode cL_law 865 = .ok (.iconst 1, 1) := by decide +kernel
theorem dL_law_866 : decode cL_law 866 = .ok (.iadd, 1) := by decide +kernel
theorem dL_law_867 : decode cL_law 867 = .ok (.iaload, 1) := by decide +kernel
theorem dL_law_868 : decode cL_law 868 = .ok (.invokevirtual 121, 3) := by decide +kernel
theorem dL_law_871 : decode cL_law 871 = .ok (.if_icmp .eq 28, 3) := by decide +kernel
theorem dL_law_874 : decode cL_law 874 = .ok (.iconst 0, 1) := by decide +kernel
theorem dL_law_875 : decode cL_law 875 = .ok (.ireturn, 1) := by decide +kernel
theorem dL_law_876 : decode cL_law 876 = .ok (.aload_n 1, 1) := by decide +kernel
theorem dL_law_877 : decode cL_law 877 = .ok (.aload_n 0, 1) := by decide +kernel
theorem dL_law_878 : decode cL_law 878 = .ok (.iload_n 3, 1) := by decide +kernel
theorem dL_law_879 : decode cL_law 879 = .ok (.iconst 1, 1) := by decide +kernel
theorem dL_law_880 : decode cL_law 880 = .ok (.iadd, 1) := by decide +kernel
theorem dL_law_881 : decode cL_law 881 = .ok (.iaload, 1) := by decide +kernel
theorem dL_law_882 : decode cL_law 882 = .ok (.invokevirtual 122, 3) := by decide +kernel
theorem dL_law_885 : decode cL_law 885 = .ok (.aload_n 2, 1) := by decide +kernel
theorem dL_law_886 : decode cL_law 886 = .ok (.aload_n 0, 1) := by decide +kernel
theorem dL_law_887 : decode cL_law 887 = .ok (.iload_n 3, 1) := by decide +kernel
theorem dL_law_888 : decode cL_law 888 = .ok (.iconst 1, 1) := by decide +kernel
theorem dL_law_889 : decode cL_law 889 = .ok (.iadd, 1) := by decide +kernel
theorem dL_law_890 : decode cL_law 890 = .ok (.iaload, 1) := by decide +kernel
theorem dL_law_891 : decode cL_law 891 = .ok (.invokevirtual 125, 3) := by decide +kernel
theorem dL_law_894 : decode cL_law 894 = .ok (.if_icmp .eq 5, 3) := by decide +kernel
theorem dL_law_897 : decode cL_law 897 = .ok (.iconst 0, 1) := by decide +kernel
theorem dL_law_898 : decode cL_law 898 = .ok (.ireturn, 1) := by decide +kernel
theorem dL_law_899 : decode cL_law 899 = .ok (.iinc 3 4, 3) := by decide +kernel
theorem dL_law_902 : decode cL_law 902 = .ok (.goto (-884), 3) := by decide +kernel
theorem dL_law_905 : decode cL_law 905 = .ok (.iconst 1, 1) := by decide +kernel
theorem dL_law_906 : decode cL_law 906 = .ok (.ireturn, 1) := by decide +kernel
end
section
/-! ===== THE MEMORY: a cell's number, a slot's number, an int; references never change (but the history's row of days, whose ints are cell numbers) ===== -/
abbrev ps_M : Type := Nat → Nat → Int32
def ps_st (M : ps_M) (k i : Nat) (v : Int32) : ps_M := fun a b => if b = i then (if a = k then v else M a b) else M a b
def ps_cpy (M : ps_M) (a sp b dp n : Nat) : ps_M := fun x i => if x = b then va_cpy (M a) (M b) sp dp n i else M x i
theorem ps_st_ne {M : ps_M} {k i : Nat} {v : Int32} {j : Nat} (h : j ≠ k) : ps_st M k i v j = M j := by
  funext b; simp [ps_st, h]
theorem ps_st_self {M : ps_M} {k i : Nat} {v : Int32} : ps_st M k i v k = upd (M k) i v := by
  funext b; simp [ps_st, upd]
theorem ps_cpy_ne {M : ps_M} {a sp b dp n j : Nat} (h : j ≠ b) : ps_cpy M a sp b dp n j = M j := by
  funext i; simp [ps_cpy, h]
theorem ps_cpy_self {M : ps_M} {a sp b dp n : Nat} : ps_cpy M a sp b dp n b = va_cpy (M a) (M b) sp dp n := by
  funext i; simp [ps_cpy]
/-! environments: classes and slots, the least address, array classes, addresses of the cells, the rest of the world -/
abbrev ps_E : Type := va_G × Nat × (Nat → ClassId) × (Nat → Nat) × va_W
abbrev ps_Y (μ : Type) : Type := va_G × Nat × (Nat → ClassId) × (μ → va_W)
abbrev ps_X (ρ : Type) : Type := Program × Launch × Env × Room × State × MethodId × Array Value × List Frame × Method × Code × Nat × Nat × Nat × (ρ → State → Prop)
abbrev ps_p {ρ : Type} (X : ps_X ρ) : Program := X.1
abbrev ps_l {ρ : Type} (X : ps_X ρ) : Launch := X.2.1
abbrev ps_e {ρ : Type} (X : ps_X ρ) : Env := X.2.2.1
abbrev ps_R {ρ : Type} (X : ps_X ρ) : Room := X.2.2.2.1
abbrev ps_s {ρ : Type} (X : ps_X ρ) : State := X.2.2.2.2.1
abbrev ps_m {ρ : Type} (X : ps_X ρ) : MethodId := X.2.2.2.2.2.1
abbrev ps_args {ρ : Type} (X : ps_X ρ) : Array Value := X.2.2.2.2.2.2.1
abbrev ps_below {ρ : Type} (X : ps_X ρ) : List Frame := X.2.2.2.2.2.2.2.1
abbrev ps_meth {ρ : Type} (X : ps_X ρ) : Method := X.2.2.2.2.2.2.2.2.1
abbrev ps_c {ρ : Type} (X : ps_X ρ) : Code := X.2.2.2.2.2.2.2.2.2.1
abbrev ps_cells {ρ : Type} (X : ps_X ρ) : Nat := X.2.2.2.2.2.2.2.2.2.2.1
abbrev ps_slots {ρ : Type} (X : ps_X ρ) : Nat := X.2.2.2.2.2.2.2.2.2.2.2.1
abbrev ps_nL {ρ : Type} (X : ps_X ρ) : Nat := X.2.2.2.2.2.2.2.2.2.2.2.2.1
abbrev ps_Qf {ρ : Type} (X : ps_X ρ) : ρ → State → Prop := X.2.2.2.2.2.2.2.2.2.2.2.2.2
def ps_tys (cid : Nat → ClassId) : List (ClassId × FieldType) := [(cid 0, .int), (cid 1, .char), (cid 2, .object "PaperStations$Station"), (cid 3, .object "PaperStations$Clerk"), (cid 4, .object "PaperStations$Day")]
/-- the machine at pc with these locals, this stack, and the memory M in the heap, comes to the end that r names -/
def ps_G {μ ρ : Type} (Y : ps_Y μ) (X : ps_X ρ) (r : ρ) (pc : Nat) (lv : List (Nat × Value)) (st : List Value) (M : μ) : Prop :=
  ∀ (H : Heap) (locs : List Loc) (ls : Array Slot), va_P Y.1 vwCl (Y.2.2.2 M) H → va_D (fun q => Y.2.1 ≤ q) (Y.2.2.2 M) → va_S (fun q => Y.2.1 ≤ q) (ps_s X).heap H locs → lv_has ls (ps_nL X) lv →
    W (ps_p X) (ps_l X) (ps_e X) (ps_R X) (ps_s X) (ps_m X) (ps_args X) (ps_below X) (ps_meth X) (ps_c X) H locs (ps_cells X) (ps_slots X) (ps_Qf X r) (F0 (ps_m X) pc ls st)
/-- what holds all through a method's body -/
def ps_C {μ ρ : Type} (Y : ps_Y μ) (X : ps_X ρ) (cc : ByteArray) (own : String) (ret : Option FieldType) (f n nL : Nat) : Prop :=
  (ps_p X).tables.exec = Jvm.exec ∧ (ps_c X).code = cc ∧ (ps_c X).maxLocals = ps_nL X ∧ ps_nL X = nL ∧ (ps_s X).vm.findClass own = some (ps_m X).cls ∧ (∀ w ∈ ps_T, w.before (ps_args X) (ps_s X) = true) ∧ (ps_meth X).sig.returnType = ret ∧ (ps_meth X).locks = false ∧
  va_K Y.1 vwCl (ps_tys Y.2.2.1) (ps_s X) ∧ Y.2.1 ≤ (ps_s X).heap.size ∧ f ≤ (ps_R X).frames ∧ n ≤ (ps_R X).locals ∧ ps_cells X ≤ (ps_R X).cells ∧ ps_slots X ≤ (ps_R X).slots
def ps_Wd {μ : Type} (Y : ps_Y μ) (M : μ) (t : State) : Prop := va_P Y.1 vwCl (Y.2.2.2 M) t.heap ∧ va_K Y.1 vwCl (ps_tys Y.2.2.1) t ∧ va_D (fun q => Y.2.1 ≤ q) (Y.2.2.2 M)
/-- returns of an int (with a memory), of nothing, of a reference -/
def ps_RI {μ : Type} (Y : ps_Y μ) (X : ps_X (Int32 × μ)) (cc : ByteArray) (ty : FieldType) : Prop := ∀ (v : Int32) (M : μ) (pc : Nat) (lv : List (Nat × Value)), decode cc pc = .ok (.ireturn, 1) → narrow ty (.int v) = .int v → ps_G Y X (v, M) pc lv [.int v] M
def ps_RV {μ : Type} (Y : ps_Y μ) (X : ps_X μ) (cc : ByteArray) : Prop := ∀ (M : μ) (pc : Nat) (lv : List (Nat × Value)), decode cc pc = .ok (.return_, 1) → ps_G Y X M pc lv [] M
def ps_RR {μ : Type} (Y : ps_Y μ) (X : ps_X (Nat × μ)) (cc : ByteArray) : Prop := ∀ (v : Nat) (M : μ) (pc : Nat) (lv : List (Nat × Value)), decode cc pc = .ok (.areturn, 1) → ps_G Y X (v, M) pc lv [.ref v] M
/-- contracts -/
def ps_CI {μ : Type} (Y : ps_Y μ) (l : Launch) (y : MethodName) (cc : ByteArray) (nL : Nat) (ret : Option FieldType) (f n : Nat) (as : List Value) (M : μ) (r : Int32 × μ) : Prop :=
  Met l y (.code y cc nL ret :: ps_T) { frames := f, cells := 0, slots := 0, locals := n } (va_Pc as (fun U => Y.2.1 ≤ U.heap.size ∧ ps_Wd Y M U)) (va_Qi (fun (x : Int32) (_ : Unit) => x = r.1) (fun _ t => ps_Wd Y r.2 t) (fun q => Y.2.1 ≤ q)) 0 0 (fun q => Y.2.1 ≤ q)
def ps_CV {μ : Type} (Y : ps_Y μ) (l : Launch) (y : MethodName) (cc : ByteArray) (nL : Nat) (f n : Nat) (as : List Value) (M : μ) (r : μ) : Prop :=
  Met l y (.code y cc nL none :: ps_T) { frames := f, cells := 0, slots := 0, locals := n } (va_Pc as (fun U => Y.2.1 ≤ U.heap.size ∧ ps_Wd Y M U)) (va_Qv (fun _ : Unit => True) (fun _ t => ps_Wd Y r t) (fun q => Y.2.1 ≤ q)) 0 0 (fun q => Y.2.1 ≤ q)
def ps_CR {μ : Type} (Y : ps_Y μ) (l : Launch) (y : MethodName) (cc : ByteArray) (nL : Nat) (ret : Option FieldType) (f n : Nat) (as : List Value) (M : μ) (r : Nat × μ) : Prop :=
  Met l y (.code y cc nL ret :: ps_T) { frames := f, cells := 0, slots := 0, locals := n } (va_Pc as (fun U => Y.2.1 ≤ U.heap.size ∧ ps_Wd Y M U)) (va_Qr (fun _ : Unit => True) (fun _ a t => a = r.1 ∧ ps_Wd Y r.2 t) (fun q => Y.2.1 ≤ q)) 0 0 (fun q => Y.2.1 ≤ q)
theorem ps_S0 {A : Nat → Prop} {H0 H : Heap} {locs : List Loc} (h : va_S A H0 H locs) : ∀ q ∈ locs, A q.base := h.2.2

theorem ps_metI {μ : Type} {Y : ps_Y μ} {l : Launch} {y : MethodName} {cc : ByteArray} {nL f n : Nat} {ty : FieldType} {as : List Value} {lv : List (Nat × Value)} {M : μ} {r : (Int32 × μ)} (own : String) (hy : plainName y.cls = true) (hown : y.cls = own) (hlen : (lg_sl as).length ≤ nL) (hlv : lv_args 0 as = lv)
    (k : ∀ X : ps_X (Int32 × μ), ps_l X = l → ps_C Y X cc own (some ty) f n nL → ps_RI Y X cc ty → ps_G Y X r 0 lv [] M) : ps_CI Y l y cc nL (some ty) f n as M r := by
  refine Met.ofW (cc := cc) (maxL := nL) (ret := some ty) hy rfl ?_
  intro p e s m args below meth c s₁ B hml hv
  obtain ⟨rfl, hb0, hP, hK, hD⟩ := hv
  have hts := atoms_spec (ws := .code y cc nL (some ty) :: ps_T) B.pre
  have hfc : s.vm.findClass own = some m.cls := by rw [← hown]; exact findClass_of_methodNamed B.named
  have hr := B.returns
  have hlk := B.notSynchronized
  have hx := B.exec
  have hb := B.bytes
  subst hlv
  have key := k (p, l, e, { frames := f, cells := 0, slots := 0, locals := n }, s, m, as.toArray, below, meth, c, 0, 0, nL, fun z => MQ below (va_Qi (fun (x : Int32) (_ : Unit) => x = z.1) (fun _ t => ps_Wd Y z.2 t) (fun q => Y.2.1 ≤ q)) as.toArray s 0 0 (fun q => Y.2.1 ≤ q)) rfl
    ⟨hx, hb, hml, rfl, hfc, fun w h => hts w (List.mem_cons_of_mem _ h), hr, hlk, hK, hb0, Nat.le_refl _, Nat.le_refl _, Nat.le_refl _, Nat.le_refl _⟩ ?_
  · rw [lg_entry_eq]
    exact key s.heap [] _ hP hD va_S.rf (lv_entry as hlen)
  · intro v M' pc lv' hdg hn H locs ls hP hD hS hl
    exact W.zret hx hb hr hn (fun t ht hW => ⟨⟨v, (), rfl, rfl, by rw [ht]; exact hP, va_K.moved hW.alike hK, hD⟩, hS.F ht⟩) hS.2.2 hdg

theorem ps_metV {μ : Type} {Y : ps_Y μ} {l : Launch} {y : MethodName} {cc : ByteArray} {nL f n : Nat} {as : List Value} {lv : List (Nat × Value)} {M : μ} {r : μ} (own : String) (hy : plainName y.cls = true) (hown : y.cls = own) (hlen : (lg_sl as).length ≤ nL) (hlv : lv_args 0 as = lv)
    (k : ∀ X : ps_X μ, ps_l X = l → ps_C Y X cc own none f n nL → ps_RV Y X cc → ps_G Y X r 0 lv [] M) : ps_CV Y l y cc nL f n as M r := by
  refine Met.ofW (cc := cc) (maxL := nL) (ret := none) hy rfl ?_
  intro p e s m args below meth c s₁ B hml hv
  obtain ⟨rfl, hb0, hP, hK, hD⟩ := hv
  have hts := atoms_spec (ws := .code y cc nL none :: ps_T) B.pre
  have hfc : s.vm.findClass own = some m.cls := by rw [← hown]; exact findClass_of_methodNamed B.named
  have hr := B.returns
  have hlk := B.notSynchronized
  have hx := B.exec
  have hb := B.bytes
  subst hlv
  have key := k (p, l, e, { frames := f, cells := 0, slots := 0, locals := n }, s, m, as.toArray, below, meth, c, 0, 0, nL, fun z => MQ below (va_Qv (fun _ : Unit => True) (fun _ t => ps_Wd Y z t) (fun q => Y.2.1 ≤ q)) as.toArray s 0 0 (fun q => Y.2.1 ≤ q)) rfl
    ⟨hx, hb, hml, rfl, hfc, fun w h => hts w (List.mem_cons_of_mem _ h), hr, hlk, hK, hb0, Nat.le_refl _, Nat.le_refl _, Nat.le_refl _, Nat.le_refl _⟩ ?_
  · rw [lg_entry_eq]
    exact key s.heap [] _ hP hD va_S.rf (lv_entry as hlen)
  · intro M' pc lv' hdg H locs ls hP hD hS hl
    exact W.vret hx hb hr (fun t ht hW => ⟨⟨(), rfl, trivial, by rw [ht]; exact hP, va_K.moved hW.alike hK, hD⟩, hS.F ht⟩) hS.2.2 hdg

theorem ps_metR {μ : Type} {Y : ps_Y μ} {l : Launch} {y : MethodName} {cc : ByteArray} {nL f n : Nat} {ty : FieldType} (hty : (∃ n, ty = .object n) ∨ ∃ t, ty = .array t) {as : List Value} {lv : List (Nat × Value)} {M : μ} {r : (Nat × μ)} (own : String) (hy : plainName y.cls = true) (hown : y.cls = own) (hlen : (lg_sl as).length ≤ nL) (hlv : lv_args 0 as = lv)
    (k : ∀ X : ps_X (Nat × μ), ps_l X = l → ps_C Y X cc own (some ty) f n nL → ps_RR Y X cc → ps_G Y X r 0 lv [] M) : ps_CR Y l y cc nL (some ty) f n as M r := by
  refine Met.ofW (cc := cc) (maxL := nL) (ret := some ty) hy rfl ?_
  intro p e s m args below meth c s₁ B hml hv
  obtain ⟨rfl, hb0, hP, hK, hD⟩ := hv
  have hts := atoms_spec (ws := .code y cc nL (some ty) :: ps_T) B.pre
  have hfc : s.vm.findClass own = some m.cls := by rw [← hown]; exact findClass_of_methodNamed B.named
  have hr := B.returns
  have hlk := B.notSynchronized
  have hx := B.exec
  have hb := B.bytes
  subst hlv
  have key := k (p, l, e, { frames := f, cells := 0, slots := 0, locals := n }, s, m, as.toArray, below, meth, c, 0, 0, nL, fun z => MQ below (va_Qr (fun _ : Unit => True) (fun _ a t => a = z.1 ∧ ps_Wd Y z.2 t) (fun q => Y.2.1 ≤ q)) as.toArray s 0 0 (fun q => Y.2.1 ≤ q)) rfl
    ⟨hx, hb, hml, rfl, hfc, fun w h => hts w (List.mem_cons_of_mem _ h), hr, hlk, hK, hb0, Nat.le_refl _, Nat.le_refl _, Nat.le_refl _, Nat.le_refl _⟩ ?_
  · rw [lg_entry_eq]
    exact key s.heap [] _ hP hD va_S.rf (lv_entry as hlen)
  · intro v M' pc lv' hdg H locs ls hP hD hS hl
    exact W.aret hx hb hr hty (Or.inr ⟨v, rfl⟩) (fun t ht hW => ⟨⟨(), v, rfl, trivial, rfl, by rw [ht]; exact hP, va_K.moved hW.alike hK, hD⟩, hS.F ht⟩) hS.2.2 hdg

theorem gw_iconst {μ ρ : Type} {Y : ps_Y μ} {X : ps_X ρ} {cc : ByteArray} {own : String} {ret : Option FieldType} {f n nL : Nat} (C : ps_C Y X cc own ret f n nL) {r : ρ} {pc : Nat} {lv : List (Nat × Value)} {st : List Value} {M : μ} (pc' : Nat) {z : Int} {v : Int32} (hd : decode cc pc = .ok (.iconst z, 1)) (hv : Int32.ofInt z = v) (hp : pc + 1 = pc') (k : ps_G Y X r pc' lv (.int v :: st) M) : ps_G Y X r pc lv st M := by
  subst hp
  intro H locs ls hP hD hS hl
  obtain ⟨hx, hb, hml, hnL, hown, hts, hr, hlk, hK, hb0, hfr, hlo, hce, hsl⟩ := C
  exact lv_iconst hx hb hd hv (k H locs ls hP hD hS hl)
theorem gw_bipush {μ ρ : Type} {Y : ps_Y μ} {X : ps_X ρ} {cc : ByteArray} {own : String} {ret : Option FieldType} {f n nL : Nat} (C : ps_C Y X cc own ret f n nL) {r : ρ} {pc : Nat} {lv : List (Nat × Value)} {st : List Value} {M : μ} (pc' : Nat) {z : Int} {v : Int32} (hd : decode cc pc = .ok (.bipush z, 2)) (hv : (Int8.ofInt z).toInt32 = v) (hp : pc + 2 = pc') (k : ps_G Y X r pc' lv (.int v :: st) M) : ps_G Y X r pc lv st M := by
  subst hp
  intro H locs ls hP hD hS hl
  obtain ⟨hx, hb, hml, hnL, hown, hts, hr, hlk, hK, hb0, hfr, hlo, hce, hsl⟩ := C
  exact lv_bipush hx hb hd hv (k H locs ls hP hD hS hl)
theorem gw_sipush {μ ρ : Type} {Y : ps_Y μ} {X : ps_X ρ} {cc : ByteArray} {own : String} {ret : Option FieldType} {f n nL : Nat} (C : ps_C Y X cc own ret f n nL) {r : ρ} {pc : Nat} {lv : List (Nat × Value)} {st : List Value} {M : μ} (pc' : Nat) {z : Int} {v : Int32} (hd : decode cc pc = .ok (.sipush z, 3)) (hv : (Int16.ofInt z).toInt32 = v) (hp : pc + 3 = pc') (k : ps_G Y X r pc' lv (.int v :: st) M) : ps_G Y X r pc lv st M := by
  subst hp
  intro H locs ls hP hD hS hl
  obtain ⟨hx, hb, hml, hnL, hown, hts, hr, hlk, hK, hb0, hfr, hlo, hce, hsl⟩ := C
  exact lv_sipush hx hb hd hv (k H locs ls hP hD hS hl)
theorem gw_ldc {μ ρ : Type} {Y : ps_Y μ} {X : ps_X ρ} {cc : ByteArray} {own : String} {ret : Option FieldType} {f n nL : Nat} (C : ps_C Y X cc own ret f n nL) {r : ρ} {pc : Nat} {lv : List (Nat × Value)} {st : List Value} {M : μ} (pc' : Nat) {z : Nat} {v : Int32} (hd : decode cc pc = .ok (.ldc z, 2)) (hw : Cond.constant own z v ∈ ps_T) (hp : pc + 2 = pc') (k : ps_G Y X r pc' lv (.int v :: st) M) : ps_G Y X r pc lv st M := by
  subst hp
  intro H locs ls hP hD hS hl
  obtain ⟨hx, hb, hml, hnL, hown, hts, hr, hlk, hK, hb0, hfr, hlo, hce, hsl⟩ := C
  exact lv_ldc hx hb hown (hts _ hw) hd (k H locs ls hP hD hS hl)
theorem gw_iload_n {μ ρ : Type} {Y : ps_Y μ} {X : ps_X ρ} {cc : ByteArray} {own : String} {ret : Option FieldType} {f n nL : Nat} (C : ps_C Y X cc own ret f n nL) {r : ρ} {pc : Nat} {lv : List (Nat × Value)} {st : List Value} {M : μ} (pc' : Nat) {i : Fin 4} {x : Int32} (hd : decode cc pc = .ok (.iload_n i, 1)) (q : Nat) (h : lv[q]? = some ((i : Nat), .int x)) (hp : pc + 1 = pc') (k : ps_G Y X r pc' lv (.int x :: st) M) : ps_G Y X r pc lv st M := by
  subst hp
  intro H locs ls hP hD hS hl
  obtain ⟨hx, hb, hml, hnL, hown, hts, hr, hlk, hK, hb0, hfr, hlo, hce, hsl⟩ := C
  exact lv_iload_n hx hb hd rfl (lv_at hl q h) (k H locs ls hP hD hS hl)
theorem gw_iload {μ ρ : Type} {Y : ps_Y μ} {X : ps_X ρ} {cc : ByteArray} {own : String} {ret : Option FieldType} {f n nL : Nat} (C : ps_C Y X cc own ret f n nL) {r : ρ} {pc : Nat} {lv : List (Nat × Value)} {st : List Value} {M : μ} (pc' : Nat) {i : Nat} {x : Int32} (hd : decode cc pc = .ok (.iload i, 2)) (q : Nat) (h : lv[q]? = some (i, .int x)) (hp : pc + 2 = pc') (k : ps_G Y X r pc' lv (.int x :: st) M) : ps_G Y X r pc lv st M := by
  subst hp
  intro H locs ls hP hD hS hl
  obtain ⟨hx, hb, hml, hnL, hown, hts, hr, hlk, hK, hb0, hfr, hlo, hce, hsl⟩ := C
  exact lv_iload hx hb hd (lv_at hl q h) (k H locs ls hP hD hS hl)
theorem gw_aload_n {μ ρ : Type} {Y : ps_Y μ} {X : ps_X ρ} {cc : ByteArray} {own : String} {ret : Option FieldType} {f n nL : Nat} (C : ps_C Y X cc own ret f n nL) {r : ρ} {pc : Nat} {lv : List (Nat × Value)} {st : List Value} {M : μ} (pc' : Nat) {i : Fin 4} {x : Nat} (hd : decode cc pc = .ok (.aload_n i, 1)) (q : Nat) (h : lv[q]? = some ((i : Nat), .ref x)) (hp : pc + 1 = pc') (k : ps_G Y X r pc' lv (.ref x :: st) M) : ps_G Y X r pc lv st M := by
  subst hp
  intro H locs ls hP hD hS hl
  obtain ⟨hx, hb, hml, hnL, hown, hts, hr, hlk, hK, hb0, hfr, hlo, hce, hsl⟩ := C
  exact lv_aload_n hx hb hd rfl (lv_at hl q h) (k H locs ls hP hD hS hl)
theorem gw_aload {μ ρ : Type} {Y : ps_Y μ} {X : ps_X ρ} {cc : ByteArray} {own : String} {ret : Option FieldType} {f n nL : Nat} (C : ps_C Y X cc own ret f n nL) {r : ρ} {pc : Nat} {lv : List (Nat × Value)} {st : List Value} {M : μ} (pc' : Nat) {i : Nat} {x : Nat} (hd : decode cc pc = .ok (.aload i, 2)) (q : Nat) (h : lv[q]? = some (i, .ref x)) (hp : pc + 2 = pc') (k : ps_G Y X r pc' lv (.ref x :: st) M) : ps_G Y X r pc lv st M := by
  subst hp
  intro H locs ls hP hD hS hl
  obtain ⟨hx, hb, hml, hnL, hown, hts, hr, hlk, hK, hb0, hfr, hlo, hce, hsl⟩ := C
  exact lv_aload hx hb hd (lv_at hl q h) (k H locs ls hP hD hS hl)
theorem gw_iadd {μ ρ : Type} {Y : ps_Y μ} {X : ps_X ρ} {cc : ByteArray} {own : String} {ret : Option FieldType} {f n nL : Nat} (C : ps_C Y X cc own ret f n nL) {r : ρ} {pc : Nat} {lv : List (Nat × Value)} {st : List Value} {M : μ} (pc' : Nat) {x y : Int32} (hd : decode cc pc = .ok (.iadd, 1)) (hp : pc + 1 = pc') (k : ps_G Y X r pc' lv (.int (x + y) :: st) M) : ps_G Y X r pc lv (.int y :: .int x :: st) M := by
  subst hp
  intro H locs ls hP hD hS hl
  obtain ⟨hx, hb, hml, hnL, hown, hts, hr, hlk, hK, hb0, hfr, hlo, hce, hsl⟩ := C
  exact lv_iadd hx hb hd (k H locs ls hP hD hS hl)
theorem gw_isub {μ ρ : Type} {Y : ps_Y μ} {X : ps_X ρ} {cc : ByteArray} {own : String} {ret : Option FieldType} {f n nL : Nat} (C : ps_C Y X cc own ret f n nL) {r : ρ} {pc : Nat} {lv : List (Nat × Value)} {st : List Value} {M : μ} (pc' : Nat) {x y : Int32} (hd : decode cc pc = .ok (.isub, 1)) (hp : pc + 1 = pc') (k : ps_G Y X r pc' lv (.int (x - y) :: st) M) : ps_G Y X r pc lv (.int y :: .int x :: st) M := by
  subst hp
  intro H locs ls hP hD hS hl
  obtain ⟨hx, hb, hml, hnL, hown, hts, hr, hlk, hK, hb0, hfr, hlo, hce, hsl⟩ := C
  exact lv_isub hx hb hd (k H locs ls hP hD hS hl)
theorem gw_imul {μ ρ : Type} {Y : ps_Y μ} {X : ps_X ρ} {cc : ByteArray} {own : String} {ret : Option FieldType} {f n nL : Nat} (C : ps_C Y X cc own ret f n nL) {r : ρ} {pc : Nat} {lv : List (Nat × Value)} {st : List Value} {M : μ} (pc' : Nat) {x y : Int32} (hd : decode cc pc = .ok (.imul, 1)) (hp : pc + 1 = pc') (k : ps_G Y X r pc' lv (.int (x * y) :: st) M) : ps_G Y X r pc lv (.int y :: .int x :: st) M := by
  subst hp
  intro H locs ls hP hD hS hl
  obtain ⟨hx, hb, hml, hnL, hown, hts, hr, hlk, hK, hb0, hfr, hlo, hce, hsl⟩ := C
  exact lv_imul hx hb hd (k H locs ls hP hD hS hl)
theorem gw_iand {μ ρ : Type} {Y : ps_Y μ} {X : ps_X ρ} {cc : ByteArray} {own : String} {ret : Option FieldType} {f n nL : Nat} (C : ps_C Y X cc own ret f n nL) {r : ρ} {pc : Nat} {lv : List (Nat × Value)} {st : List Value} {M : μ} (pc' : Nat) {x y : Int32} (hd : decode cc pc = .ok (.iand, 1)) (hp : pc + 1 = pc') (k : ps_G Y X r pc' lv (.int (x &&& y) :: st) M) : ps_G Y X r pc lv (.int y :: .int x :: st) M := by
  subst hp
  intro H locs ls hP hD hS hl
  obtain ⟨hx, hb, hml, hnL, hown, hts, hr, hlk, hK, hb0, hfr, hlo, hce, hsl⟩ := C
  exact lv_iand hx hb hd (k H locs ls hP hD hS hl)
theorem gw_idiv {μ ρ : Type} {Y : ps_Y μ} {X : ps_X ρ} {cc : ByteArray} {own : String} {ret : Option FieldType} {f n nL : Nat} (C : ps_C Y X cc own ret f n nL) {r : ρ} {pc : Nat} {lv : List (Nat × Value)} {st : List Value} {M : μ} (pc' : Nat) {x y : Int32} (hd : decode cc pc = .ok (.idiv, 1)) (hne : ¬ y = 0) (hp : pc + 1 = pc') (k : ps_G Y X r pc' lv (.int (x / y) :: st) M) : ps_G Y X r pc lv (.int y :: .int x :: st) M := by
  subst hp
  intro H locs ls hP hD hS hl
  obtain ⟨hx, hb, hml, hnL, hown, hts, hr, hlk, hK, hb0, hfr, hlo, hce, hsl⟩ := C
  exact lv_idiv hx hb hd hne (k H locs ls hP hD hS hl)
theorem gw_ineg {μ ρ : Type} {Y : ps_Y μ} {X : ps_X ρ} {cc : ByteArray} {own : String} {ret : Option FieldType} {f n nL : Nat} (C : ps_C Y X cc own ret f n nL) {r : ρ} {pc : Nat} {lv : List (Nat × Value)} {st : List Value} {M : μ} (pc' : Nat) {x : Int32} (hd : decode cc pc = .ok (.ineg, 1)) (hp : pc + 1 = pc') (k : ps_G Y X r pc' lv (.int (-x) :: st) M) : ps_G Y X r pc lv (.int x :: st) M := by
  subst hp
  intro H locs ls hP hD hS hl
  obtain ⟨hx, hb, hml, hnL, hown, hts, hr, hlk, hK, hb0, hfr, hlo, hce, hsl⟩ := C
  exact lv_ineg hx hb hd (k H locs ls hP hD hS hl)
theorem gw_i2c {μ ρ : Type} {Y : ps_Y μ} {X : ps_X ρ} {cc : ByteArray} {own : String} {ret : Option FieldType} {f n nL : Nat} (C : ps_C Y X cc own ret f n nL) {r : ρ} {pc : Nat} {lv : List (Nat × Value)} {st : List Value} {M : μ} (pc' : Nat) {x : Int32} (hd : decode cc pc = .ok (.i2c, 1)) (hp : pc + 1 = pc') (k : ps_G Y X r pc' lv (.int ((x.toUInt32 % 65536).toInt32) :: st) M) : ps_G Y X r pc lv (.int x :: st) M := by
  subst hp
  intro H locs ls hP hD hS hl
  obtain ⟨hx, hb, hml, hnL, hown, hts, hr, hlk, hK, hb0, hfr, hlo, hce, hsl⟩ := C
  exact lv_i2c hx hb hd rfl (k H locs ls hP hD hS hl)
theorem gw_dup {μ ρ : Type} {Y : ps_Y μ} {X : ps_X ρ} {cc : ByteArray} {own : String} {ret : Option FieldType} {f n nL : Nat} (C : ps_C Y X cc own ret f n nL) {r : ρ} {pc : Nat} {lv : List (Nat × Value)} {st : List Value} {M : μ} (pc' : Nat) {v : Value} (hd : decode cc pc = .ok (.dup, 1)) (hv : v.category = 1) (hp : pc + 1 = pc') (k : ps_G Y X r pc' lv (v :: v :: st) M) : ps_G Y X r pc lv (v :: st) M := by
  subst hp
  intro H locs ls hP hD hS hl
  obtain ⟨hx, hb, hml, hnL, hown, hts, hr, hlk, hK, hb0, hfr, hlo, hce, hsl⟩ := C
  exact lv_dup hx hb hd hv (k H locs ls hP hD hS hl)
theorem gw_pop {μ ρ : Type} {Y : ps_Y μ} {X : ps_X ρ} {cc : ByteArray} {own : String} {ret : Option FieldType} {f n nL : Nat} (C : ps_C Y X cc own ret f n nL) {r : ρ} {pc : Nat} {lv : List (Nat × Value)} {st : List Value} {M : μ} (pc' : Nat) {v : Value} (hd : decode cc pc = .ok (.pop, 1)) (hv : v.category = 1) (hp : pc + 1 = pc') (k : ps_G Y X r pc' lv st M) : ps_G Y X r pc lv (v :: st) M := by
  subst hp
  intro H locs ls hP hD hS hl
  obtain ⟨hx, hb, hml, hnL, hown, hts, hr, hlk, hK, hb0, hfr, hlo, hce, hsl⟩ := C
  exact lv_pop hx hb hd hv (k H locs ls hP hD hS hl)
theorem gw_dup2 {μ ρ : Type} {Y : ps_Y μ} {X : ps_X ρ} {cc : ByteArray} {own : String} {ret : Option FieldType} {f n nL : Nat} (C : ps_C Y X cc own ret f n nL) {r : ρ} {pc : Nat} {lv : List (Nat × Value)} {st : List Value} {M : μ} (pc' : Nat) {v u : Value} (hd : decode cc pc = .ok (.dup2, 1)) (hv : v.category = 1) (hu : u.category = 1) (hp : pc + 1 = pc') (k : ps_G Y X r pc' lv (v :: u :: v :: u :: st) M) : ps_G Y X r pc lv (v :: u :: st) M := by
  subst hp
  intro H locs ls hP hD hS hl
  obtain ⟨hx, hb, hml, hnL, hown, hts, hr, hlk, hK, hb0, hfr, hlo, hce, hsl⟩ := C
  exact lv_dup2_11 hx hb hd hv hu (k H locs ls hP hD hS hl)
theorem gw_istore_n {μ ρ : Type} {Y : ps_Y μ} {X : ps_X ρ} {cc : ByteArray} {own : String} {ret : Option FieldType} {f n nL : Nat} (C : ps_C Y X cc own ret f n nL) {r : ρ} {pc : Nat} {lv : List (Nat × Value)} {st : List Value} {M : μ} (pc' : Nat) {i : Fin 4} {x : Int32} (hd : decode cc pc = .ok (.istore_n i, 1)) (hp : pc + 1 = pc') (lv' : List (Nat × Value)) (qs : List Nat) (hi : (i : Nat) < nL) (h : lv_pick (((i : Nat), Value.int x) :: lv.filter (fun q => !(q.1 == (i : Nat)) && !(q.1 + 1 == (i : Nat) && q.2.category == 2))) qs = lv') (k : ps_G Y X r pc' lv' st M) : ps_G Y X r pc lv (.int x :: st) M := by
  subst hp
  intro H locs ls hP hD hS hl
  obtain ⟨hx, hb, hml, hnL, hown, hts, hr, hlk, hK, hb0, hfr, hlo, hce, hsl⟩ := C
  rw [hnL] at hl
  exact lv_istore_n hx hb hd rfl hl hi rfl (fun ls' hl' => k H locs ls' hP hD hS (by rw [hnL]; exact lv_sub hl' qs h))
theorem gw_istore {μ ρ : Type} {Y : ps_Y μ} {X : ps_X ρ} {cc : ByteArray} {own : String} {ret : Option FieldType} {f n nL : Nat} (C : ps_C Y X cc own ret f n nL) {r : ρ} {pc : Nat} {lv : List (Nat × Value)} {st : List Value} {M : μ} (pc' : Nat) {i : Nat} {x : Int32} (hd : decode cc pc = .ok (.istore i, 2)) (hp : pc + 2 = pc') (lv' : List (Nat × Value)) (qs : List Nat) (hi : (i : Nat) < nL) (h : lv_pick (((i : Nat), Value.int x) :: lv.filter (fun q => !(q.1 == (i : Nat)) && !(q.1 + 1 == (i : Nat) && q.2.category == 2))) qs = lv') (k : ps_G Y X r pc' lv' st M) : ps_G Y X r pc lv (.int x :: st) M := by
  subst hp
  intro H locs ls hP hD hS hl
  obtain ⟨hx, hb, hml, hnL, hown, hts, hr, hlk, hK, hb0, hfr, hlo, hce, hsl⟩ := C
  rw [hnL] at hl
  exact lv_istore hx hb hd hl hi rfl (fun ls' hl' => k H locs ls' hP hD hS (by rw [hnL]; exact lv_sub hl' qs h))
theorem gw_astore_n {μ ρ : Type} {Y : ps_Y μ} {X : ps_X ρ} {cc : ByteArray} {own : String} {ret : Option FieldType} {f n nL : Nat} (C : ps_C Y X cc own ret f n nL) {r : ρ} {pc : Nat} {lv : List (Nat × Value)} {st : List Value} {M : μ} (pc' : Nat) {i : Fin 4} {x : Nat} (hd : decode cc pc = .ok (.astore_n i, 1)) (hp : pc + 1 = pc') (lv' : List (Nat × Value)) (qs : List Nat) (hi : (i : Nat) < nL) (h : lv_pick (((i : Nat), Value.ref x) :: lv.filter (fun q => !(q.1 == (i : Nat)) && !(q.1 + 1 == (i : Nat) && q.2.category == 2))) qs = lv') (k : ps_G Y X r pc' lv' st M) : ps_G Y X r pc lv (.ref x :: st) M := by
  subst hp
  intro H locs ls hP hD hS hl
  obtain ⟨hx, hb, hml, hnL, hown, hts, hr, hlk, hK, hb0, hfr, hlo, hce, hsl⟩ := C
  rw [hnL] at hl
  exact lv_astore_n hx hb hd rfl hl hi rfl (fun ls' hl' => k H locs ls' hP hD hS (by rw [hnL]; exact lv_sub hl' qs h))
theorem gw_astore {μ ρ : Type} {Y : ps_Y μ} {X : ps_X ρ} {cc : ByteArray} {own : String} {ret : Option FieldType} {f n nL : Nat} (C : ps_C Y X cc own ret f n nL) {r : ρ} {pc : Nat} {lv : List (Nat × Value)} {st : List Value} {M : μ} (pc' : Nat) {i : Nat} {x : Nat} (hd : decode cc pc = .ok (.astore i, 2)) (hp : pc + 2 = pc') (lv' : List (Nat × Value)) (qs : List Nat) (hi : (i : Nat) < nL) (h : lv_pick (((i : Nat), Value.ref x) :: lv.filter (fun q => !(q.1 == (i : Nat)) && !(q.1 + 1 == (i : Nat) && q.2.category == 2))) qs = lv') (k : ps_G Y X r pc' lv' st M) : ps_G Y X r pc lv (.ref x :: st) M := by
  subst hp
  intro H locs ls hP hD hS hl
  obtain ⟨hx, hb, hml, hnL, hown, hts, hr, hlk, hK, hb0, hfr, hlo, hce, hsl⟩ := C
  rw [hnL] at hl
  exact lv_astore hx hb hd hl hi rfl (fun ls' hl' => k H locs ls' hP hD hS (by rw [hnL]; exact lv_sub hl' qs h))
theorem gw_iinc {μ ρ : Type} {Y : ps_Y μ} {X : ps_X ρ} {cc : ByteArray} {own : String} {ret : Option FieldType} {f n nL : Nat} (C : ps_C Y X cc own ret f n nL) {r : ρ} {pc : Nat} {lv : List (Nat × Value)} {st : List Value} {M : μ} (pc' : Nat) {i : Nat} {z : Int} {x y v : Int32} (hd : decode cc pc = .ok (.iinc i z, 3)) (hp : pc + 3 = pc') (hy : Int32.ofInt z = y) (hv : x + y = v) (q : Nat) (hq : lv[q]? = some (i, .int x)) (lv' : List (Nat × Value)) (qs : List Nat) (hi : i < nL) (h : lv_pick ((i, Value.int v) :: lv.filter (fun q => !(q.1 == i) && !(q.1 + 1 == i && q.2.category == 2))) qs = lv') (k : ps_G Y X r pc' lv' st M) : ps_G Y X r pc lv st M := by
  subst hp
  intro H locs ls hP hD hS hl
  obtain ⟨hx, hb, hml, hnL, hown, hts, hr, hlk, hK, hb0, hfr, hlo, hce, hsl⟩ := C
  rw [hnL] at hl
  subst hy; subst hv
  exact lv_iinc hx hb hd hl hq rfl hi rfl (fun ls' hl' => k H locs ls' hP hD hS (by rw [hnL]; exact lv_sub hl' qs h))
theorem gw_sub {μ ρ : Type} {Y : ps_Y μ} {X : ps_X ρ} {cc : ByteArray} {own : String} {ret : Option FieldType} {f n nL : Nat} (C : ps_C Y X cc own ret f n nL) {r : ρ} {pc : Nat} {lv : List (Nat × Value)} {st : List Value} {M : μ} (lv' : List (Nat × Value)) (qs : List Nat) (h : lv_pick lv qs = lv') (k : ps_G Y X r pc lv' st M) : ps_G Y X r pc lv st M := fun H locs ls hP hD hS hl => k H locs ls hP hD hS (lv_sub hl qs h)
theorem gw_goto {μ ρ : Type} {Y : ps_Y μ} {X : ps_X ρ} {cc : ByteArray} {own : String} {ret : Option FieldType} {f n nL : Nat} (C : ps_C Y X cc own ret f n nL) {r : ρ} {pc : Nat} {lv : List (Nat × Value)} {st : List Value} {M : μ} {off : Int} (tgt : Nat) (hd : decode cc pc = .ok (.goto off, 3)) (ht : (pc : Int) + off = (tgt : Int)) (k : ps_G Y X r tgt lv st M) : ps_G Y X r pc lv st M := by
  intro H locs ls hP hD hS hl
  obtain ⟨hx, hb, hml, hnL, hown, hts, hr, hlk, hK, hb0, hfr, hlo, hce, hsl⟩ := C
  exact lv_goto hx hb hd ht (k H locs ls hP hD hS hl)
theorem gw_if_eq {μ ρ : Type} {Y : ps_Y μ} {X : ps_X ρ} {cc : ByteArray} {own : String} {ret : Option FieldType} {f n nL : Nat} (C : ps_C Y X cc own ret f n nL) {a b : ρ} {pc : Nat} {lv : List (Nat × Value)} {st : List Value} {M : μ} (tgt pc' : Nat) {x : Int32} {off : Int} (hd : decode cc pc = .ok (.ifCond .eq off, 3)) (ht : (pc : Int) + off = (tgt : Int)) (hp : pc + 3 = pc') (kt : x = 0 → ps_G Y X a tgt lv st M) (kf : ¬ x = 0 → ps_G Y X b pc' lv st M) : ps_G Y X (if x = 0 then a else b) pc lv (.int x :: st) M := by
  subst hp
  intro H locs ls hP hD hS hl
  obtain ⟨hx, hb, hml, hnL, hown, hts, hr, hlk, hK, hb0, hfr, hlo, hce, hsl⟩ := C
  exact lv_if_eq hx hb hd ht (fun h => by have := kt h; rw [if_pos h]; exact this H locs ls hP hD hS hl) (fun h => by have := kf h; rw [if_neg h]; exact this H locs ls hP hD hS hl)
theorem gw_if_ne {μ ρ : Type} {Y : ps_Y μ} {X : ps_X ρ} {cc : ByteArray} {own : String} {ret : Option FieldType} {f n nL : Nat} (C : ps_C Y X cc own ret f n nL) {a b : ρ} {pc : Nat} {lv : List (Nat × Value)} {st : List Value} {M : μ} (tgt pc' : Nat) {x : Int32} {off : Int} (hd : decode cc pc = .ok (.ifCond .ne off, 3)) (ht : (pc : Int) + off = (tgt : Int)) (hp : pc + 3 = pc') (kf : x = 0 → ps_G Y X a pc' lv st M) (kt : ¬ x = 0 → ps_G Y X b tgt lv st M) : ps_G Y X (if x = 0 then a else b) pc lv (.int x :: st) M := by
  subst hp
  intro H locs ls hP hD hS hl
  obtain ⟨hx, hb, hml, hnL, hown, hts, hr, hlk, hK, hb0, hfr, hlo, hce, hsl⟩ := C
  exact lv_if_ne hx hb hd ht (fun h => by have := kt h; rw [if_neg h]; exact this H locs ls hP hD hS hl) (fun h => by have := kf h; rw [if_pos h]; exact this H locs ls hP hD hS hl)
theorem gw_if_lt {μ ρ : Type} {Y : ps_Y μ} {X : ps_X ρ} {cc : ByteArray} {own : String} {ret : Option FieldType} {f n nL : Nat} (C : ps_C Y X cc own ret f n nL) {a b : ρ} {pc : Nat} {lv : List (Nat × Value)} {st : List Value} {M : μ} (tgt pc' : Nat) {x : Int32} {off : Int} (hd : decode cc pc = .ok (.ifCond .lt off, 3)) (ht : (pc : Int) + off = (tgt : Int)) (hp : pc + 3 = pc') (kt : x < 0 → ps_G Y X a tgt lv st M) (kf : ¬ x < 0 → ps_G Y X b pc' lv st M) : ps_G Y X (if x < 0 then a else b) pc lv (.int x :: st) M := by
  subst hp
  intro H locs ls hP hD hS hl
  obtain ⟨hx, hb, hml, hnL, hown, hts, hr, hlk, hK, hb0, hfr, hlo, hce, hsl⟩ := C
  exact lv_if_lt hx hb hd ht (fun h => by have := kt h; rw [if_pos h]; exact this H locs ls hP hD hS hl) (fun h => by have := kf h; rw [if_neg h]; exact this H locs ls hP hD hS hl)
theorem gw_if_ge {μ ρ : Type} {Y : ps_Y μ} {X : ps_X ρ} {cc : ByteArray} {own : String} {ret : Option FieldType} {f n nL : Nat} (C : ps_C Y X cc own ret f n nL) {a b : ρ} {pc : Nat} {lv : List (Nat × Value)} {st : List Value} {M : μ} (tgt pc' : Nat) {x : Int32} {off : Int} (hd : decode cc pc = .ok (.ifCond .ge off, 3)) (ht : (pc : Int) + off = (tgt : Int)) (hp : pc + 3 = pc') (kt : 0 ≤ x → ps_G Y X a tgt lv st M) (kf : ¬ 0 ≤ x → ps_G Y X b pc' lv st M) : ps_G Y X (if 0 ≤ x then a else b) pc lv (.int x :: st) M := by
  subst hp
  intro H locs ls hP hD hS hl
  obtain ⟨hx, hb, hml, hnL, hown, hts, hr, hlk, hK, hb0, hfr, hlo, hce, hsl⟩ := C
  exact lv_if_ge hx hb hd ht (fun h => by have := kt h; rw [if_pos h]; exact this H locs ls hP hD hS hl) (fun h => by have := kf h; rw [if_neg h]; exact this H locs ls hP hD hS hl)
theorem gw_if_gt {μ ρ : Type} {Y : ps_Y μ} {X : ps_X ρ} {cc : ByteArray} {own : String} {ret : Option FieldType} {f n nL : Nat} (C : ps_C Y X cc own ret f n nL) {a b : ρ} {pc : Nat} {lv : List (Nat × Value)} {st : List Value} {M : μ} (tgt pc' : Nat) {x : Int32} {off : Int} (hd : decode cc pc = .ok (.ifCond .gt off, 3)) (ht : (pc : Int) + off = (tgt : Int)) (hp : pc + 3 = pc') (kt : 0 < x → ps_G Y X a tgt lv st M) (kf : ¬ 0 < x → ps_G Y X b pc' lv st M) : ps_G Y X (if 0 < x then a else b) pc lv (.int x :: st) M := by
  subst hp
  intro H locs ls hP hD hS hl
  obtain ⟨hx, hb, hml, hnL, hown, hts, hr, hlk, hK, hb0, hfr, hlo, hce, hsl⟩ := C
  exact lv_if_gt hx hb hd ht (fun h => by have := kt h; rw [if_pos h]; exact this H locs ls hP hD hS hl) (fun h => by have := kf h; rw [if_neg h]; exact this H locs ls hP hD hS hl)
theorem gw_if_le {μ ρ : Type} {Y : ps_Y μ} {X : ps_X ρ} {cc : ByteArray} {own : String} {ret : Option FieldType} {f n nL : Nat} (C : ps_C Y X cc own ret f n nL) {a b : ρ} {pc : Nat} {lv : List (Nat × Value)} {st : List Value} {M : μ} (tgt pc' : Nat) {x : Int32} {off : Int} (hd : decode cc pc = .ok (.ifCond .le off, 3)) (ht : (pc : Int) + off = (tgt : Int)) (hp : pc + 3 = pc') (kt : x ≤ 0 → ps_G Y X a tgt lv st M) (kf : ¬ x ≤ 0 → ps_G Y X b pc' lv st M) : ps_G Y X (if x ≤ 0 then a else b) pc lv (.int x :: st) M := by
  subst hp
  intro H locs ls hP hD hS hl
  obtain ⟨hx, hb, hml, hnL, hown, hts, hr, hlk, hK, hb0, hfr, hlo, hce, hsl⟩ := C
  exact lv_if_le hx hb hd ht (fun h => by have := kt h; rw [if_pos h]; exact this H locs ls hP hD hS hl) (fun h => by have := kf h; rw [if_neg h]; exact this H locs ls hP hD hS hl)
theorem gw_ic_eq {μ ρ : Type} {Y : ps_Y μ} {X : ps_X ρ} {cc : ByteArray} {own : String} {ret : Option FieldType} {f n nL : Nat} (C : ps_C Y X cc own ret f n nL) {a b : ρ} {pc : Nat} {lv : List (Nat × Value)} {st : List Value} {M : μ} (tgt pc' : Nat) {x y : Int32} {off : Int} (hd : decode cc pc = .ok (.if_icmp .eq off, 3)) (ht : (pc : Int) + off = (tgt : Int)) (hp : pc + 3 = pc') (kt : x = y → ps_G Y X a tgt lv st M) (kf : ¬ x = y → ps_G Y X b pc' lv st M) : ps_G Y X (if x = y then a else b) pc lv (.int y :: .int x :: st) M := by
  subst hp
  intro H locs ls hP hD hS hl
  obtain ⟨hx, hb, hml, hnL, hown, hts, hr, hlk, hK, hb0, hfr, hlo, hce, hsl⟩ := C
  exact lv_icmp_eq hx hb hd ht (fun h => by have := kt h; rw [if_pos h]; exact this H locs ls hP hD hS hl) (fun h => by have := kf h; rw [if_neg h]; exact this H locs ls hP hD hS hl)
theorem gw_ic_ne {μ ρ : Type} {Y : ps_Y μ} {X : ps_X ρ} {cc : ByteArray} {own : String} {ret : Option FieldType} {f n nL : Nat} (C : ps_C Y X cc own ret f n nL) {a b : ρ} {pc : Nat} {lv : List (Nat × Value)} {st : List Value} {M : μ} (tgt pc' : Nat) {x y : Int32} {off : Int} (hd : decode cc pc = .ok (.if_icmp .ne off, 3)) (ht : (pc : Int) + off = (tgt : Int)) (hp : pc + 3 = pc') (kf : x = y → ps_G Y X a pc' lv st M) (kt : ¬ x = y → ps_G Y X b tgt lv st M) : ps_G Y X (if x = y then a else b) pc lv (.int y :: .int x :: st) M := by
  subst hp
  intro H locs ls hP hD hS hl
  obtain ⟨hx, hb, hml, hnL, hown, hts, hr, hlk, hK, hb0, hfr, hlo, hce, hsl⟩ := C
  exact lv_icmp_ne hx hb hd ht (fun h => by have := kt h; rw [if_neg h]; exact this H locs ls hP hD hS hl) (fun h => by have := kf h; rw [if_pos h]; exact this H locs ls hP hD hS hl)
theorem gw_ic_lt {μ ρ : Type} {Y : ps_Y μ} {X : ps_X ρ} {cc : ByteArray} {own : String} {ret : Option FieldType} {f n nL : Nat} (C : ps_C Y X cc own ret f n nL) {a b : ρ} {pc : Nat} {lv : List (Nat × Value)} {st : List Value} {M : μ} (tgt pc' : Nat) {x y : Int32} {off : Int} (hd : decode cc pc = .ok (.if_icmp .lt off, 3)) (ht : (pc : Int) + off = (tgt : Int)) (hp : pc + 3 = pc') (kt : x < y → ps_G Y X a tgt lv st M) (kf : ¬ x < y → ps_G Y X b pc' lv st M) : ps_G Y X (if x < y then a else b) pc lv (.int y :: .int x :: st) M := by
  subst hp
  intro H locs ls hP hD hS hl
  obtain ⟨hx, hb, hml, hnL, hown, hts, hr, hlk, hK, hb0, hfr, hlo, hce, hsl⟩ := C
  exact lv_icmp_lt hx hb hd ht (fun h => by have := kt h; rw [if_pos h]; exact this H locs ls hP hD hS hl) (fun h => by have := kf h; rw [if_neg h]; exact this H locs ls hP hD hS hl)
theorem gw_ic_ge {μ ρ : Type} {Y : ps_Y μ} {X : ps_X ρ} {cc : ByteArray} {own : String} {ret : Option FieldType} {f n nL : Nat} (C : ps_C Y X cc own ret f n nL) {a b : ρ} {pc : Nat} {lv : List (Nat × Value)} {st : List Value} {M : μ} (tgt pc' : Nat) {x y : Int32} {off : Int} (hd : decode cc pc = .ok (.if_icmp .ge off, 3)) (ht : (pc : Int) + off = (tgt : Int)) (hp : pc + 3 = pc') (kt : y ≤ x → ps_G Y X a tgt lv st M) (kf : ¬ y ≤ x → ps_G Y X b pc' lv st M) : ps_G Y X (if y ≤ x then a else b) pc lv (.int y :: .int x :: st) M := by
  subst hp
  intro H locs ls hP hD hS hl
  obtain ⟨hx, hb, hml, hnL, hown, hts, hr, hlk, hK, hb0, hfr, hlo, hce, hsl⟩ := C
  exact lv_icmp_ge hx hb hd ht (fun h => by have := kt h; rw [if_pos h]; exact this H locs ls hP hD hS hl) (fun h => by have := kf h; rw [if_neg h]; exact this H locs ls hP hD hS hl)
theorem gw_ic_gt {μ ρ : Type} {Y : ps_Y μ} {X : ps_X ρ} {cc : ByteArray} {own : String} {ret : Option FieldType} {f n nL : Nat} (C : ps_C Y X cc own ret f n nL) {a b : ρ} {pc : Nat} {lv : List (Nat × Value)} {st : List Value} {M : μ} (tgt pc' : Nat) {x y : Int32} {off : Int} (hd : decode cc pc = .ok (.if_icmp .gt off, 3)) (ht : (pc : Int) + off = (tgt : Int)) (hp : pc + 3 = pc') (kt : y < x → ps_G Y X a tgt lv st M) (kf : ¬ y < x → ps_G Y X b pc' lv st M) : ps_G Y X (if y < x then a else b) pc lv (.int y :: .int x :: st) M := by
  subst hp
  intro H locs ls hP hD hS hl
  obtain ⟨hx, hb, hml, hnL, hown, hts, hr, hlk, hK, hb0, hfr, hlo, hce, hsl⟩ := C
  exact lv_icmp_gt hx hb hd ht (fun h => by have := kt h; rw [if_pos h]; exact this H locs ls hP hD hS hl) (fun h => by have := kf h; rw [if_neg h]; exact this H locs ls hP hD hS hl)
theorem gw_ic_le {μ ρ : Type} {Y : ps_Y μ} {X : ps_X ρ} {cc : ByteArray} {own : String} {ret : Option FieldType} {f n nL : Nat} (C : ps_C Y X cc own ret f n nL) {a b : ρ} {pc : Nat} {lv : List (Nat × Value)} {st : List Value} {M : μ} (tgt pc' : Nat) {x y : Int32} {off : Int} (hd : decode cc pc = .ok (.if_icmp .le off, 3)) (ht : (pc : Int) + off = (tgt : Int)) (hp : pc + 3 = pc') (kt : x ≤ y → ps_G Y X a tgt lv st M) (kf : ¬ x ≤ y → ps_G Y X b pc' lv st M) : ps_G Y X (if x ≤ y then a else b) pc lv (.int y :: .int x :: st) M := by
  subst hp
  intro H locs ls hP hD hS hl
  obtain ⟨hx, hb, hml, hnL, hown, hts, hr, hlk, hK, hb0, hfr, hlo, hce, hsl⟩ := C
  exact lv_icmp_le hx hb hd ht (fun h => by have := kt h; rw [if_pos h]; exact this H locs ls hP hD hS hl) (fun h => by have := kf h; rw [if_neg h]; exact this H locs ls hP hD hS hl)
theorem gw_if_eqP {μ : Type} {Y : ps_Y μ} {X : ps_X (Int32 × μ)} {cc : ByteArray} {own : String} {ret : Option FieldType} {f n nL : Nat} (C : ps_C Y X cc own ret f n nL) {a b : Int32} {pc : Nat} {lv : List (Nat × Value)} {st : List Value} {M M0 : μ} (tgt pc' : Nat) {x : Int32} {off : Int} (hd : decode cc pc = .ok (.ifCond .eq off, 3)) (ht : (pc : Int) + off = (tgt : Int)) (hp : pc + 3 = pc') (kt : x = 0 → ps_G Y X (a, M0) tgt lv st M) (kf : ¬ x = 0 → ps_G Y X (b, M0) pc' lv st M) : ps_G Y X ((if x = 0 then a else b), M0) pc lv (.int x :: st) M := by
  rw [show (((if x = 0 then a else b), M0) : Int32 × μ) = (if x = 0 then (a, M0) else (b, M0)) by split <;> rfl]
  exact gw_if_eq C tgt pc' hd ht hp kt kf
theorem gw_if_neP {μ : Type} {Y : ps_Y μ} {X : ps_X (Int32 × μ)} {cc : ByteArray} {own : String} {ret : Option FieldType} {f n nL : Nat} (C : ps_C Y X cc own ret f n nL) {a b : Int32} {pc : Nat} {lv : List (Nat × Value)} {st : List Value} {M M0 : μ} (tgt pc' : Nat) {x : Int32} {off : Int} (hd : decode cc pc = .ok (.ifCond .ne off, 3)) (ht : (pc : Int) + off = (tgt : Int)) (hp : pc + 3 = pc') (kf : x = 0 → ps_G Y X (a, M0) pc' lv st M) (kt : ¬ x = 0 → ps_G Y X (b, M0) tgt lv st M) : ps_G Y X ((if x = 0 then a else b), M0) pc lv (.int x :: st) M := by
  rw [show (((if x = 0 then a else b), M0) : Int32 × μ) = (if x = 0 then (a, M0) else (b, M0)) by split <;> rfl]
  exact gw_if_ne C tgt pc' hd ht hp kf kt
theorem gw_if_ltP {μ : Type} {Y : ps_Y μ} {X : ps_X (Int32 × μ)} {cc : ByteArray} {own : String} {ret : Option FieldType} {f n nL : Nat} (C : ps_C Y X cc own ret f n nL) {a b : Int32} {pc : Nat} {lv : List (Nat × Value)} {st : List Value} {M M0 : μ} (tgt pc' : Nat) {x : Int32} {off : Int} (hd : decode cc pc = .ok (.ifCond .lt off, 3)) (ht : (pc : Int) + off = (tgt : Int)) (hp : pc + 3 = pc') (kt : x < 0 → ps_G Y X (a, M0) tgt lv st M) (kf : ¬ x < 0 → ps_G Y X (b, M0) pc' lv st M) : ps_G Y X ((if x < 0 then a else b), M0) pc lv (.int x :: st) M := by
  rw [show (((if x < 0 then a else b), M0) : Int32 × μ) = (if x < 0 then (a, M0) else (b, M0)) by split <;> rfl]
  exact gw_if_lt C tgt pc' hd ht hp kt kf
theorem gw_if_geP {μ : Type} {Y : ps_Y μ} {X : ps_X (Int32 × μ)} {cc : ByteArray} {own : String} {ret : Option FieldType} {f n nL : Nat} (C : ps_C Y X cc own ret f n nL) {a b : Int32} {pc : Nat} {lv : List (Nat × Value)} {st : List Value} {M M0 : μ} (tgt pc' : Nat) {x : Int32} {off : Int} (hd : decode cc pc = .ok (.ifCond .ge off, 3)) (ht : (pc : Int) + off = (tgt : Int)) (hp : pc + 3 = pc') (kt : 0 ≤ x → ps_G Y X (a, M0) tgt lv st M) (kf : ¬ 0 ≤ x → ps_G Y X (b, M0) pc' lv st M) : ps_G Y X ((if 0 ≤ x then a else b), M0) pc lv (.int x :: st) M := by
  rw [show (((if 0 ≤ x then a else b), M0) : Int32 × μ) = (if 0 ≤ x then (a, M0) else (b, M0)) by split <;> rfl]
  exact gw_if_ge C tgt pc' hd ht hp kt kf
theorem gw_if_gtP {μ : Type} {Y : ps_Y μ} {X : ps_X (Int32 × μ)} {cc : ByteArray} {own : String} {ret : Option FieldType} {f n nL : Nat} (C : ps_C Y X cc own ret f n nL) {a b : Int32} {pc : Nat} {lv : List (Nat × Value)} {st : List Value} {M M0 : μ} (tgt pc' : Nat) {x : Int32} {off : Int} (hd : decode cc pc = .ok (.ifCond .gt off, 3)) (ht : (pc : Int) + off = (tgt : Int)) (hp : pc + 3 = pc') (kt : 0 < x → ps_G Y X (a, M0) tgt lv st M) (kf : ¬ 0 < x → ps_G Y X (b, M0) pc' lv st M) : ps_G Y X ((if 0 < x then a else b), M0) pc lv (.int x :: st) M := by
  rw [show (((if 0 < x then a else b), M0) : Int32 × μ) = (if 0 < x then (a, M0) else (b, M0)) by split <;> rfl]
  exact gw_if_gt C tgt pc' hd ht hp kt kf
theorem gw_if_leP {μ : Type} {Y : ps_Y μ} {X : ps_X (Int32 × μ)} {cc : ByteArray} {own : String} {ret : Option FieldType} {f n nL : Nat} (C : ps_C Y X cc own ret f n nL) {a b : Int32} {pc : Nat} {lv : List (Nat × Value)} {st : List Value} {M M0 : μ} (tgt pc' : Nat) {x : Int32} {off : Int} (hd : decode cc pc = .ok (.ifCond .le off, 3)) (ht : (pc : Int) + off = (tgt : Int)) (hp : pc + 3 = pc') (kt : x ≤ 0 → ps_G Y X (a, M0) tgt lv st M) (kf : ¬ x ≤ 0 → ps_G Y X (b, M0) pc' lv st M) : ps_G Y X ((if x ≤ 0 then a else b), M0) pc lv (.int x :: st) M := by
  rw [show (((if x ≤ 0 then a else b), M0) : Int32 × μ) = (if x ≤ 0 then (a, M0) else (b, M0)) by split <;> rfl]
  exact gw_if_le C tgt pc' hd ht hp kt kf
theorem gw_ic_eqP {μ : Type} {Y : ps_Y μ} {X : ps_X (Int32 × μ)} {cc : ByteArray} {own : String} {ret : Option FieldType} {f n nL : Nat} (C : ps_C Y X cc own ret f n nL) {a b : Int32} {pc : Nat} {lv : List (Nat × Value)} {st : List Value} {M M0 : μ} (tgt pc' : Nat) {x y : Int32} {off : Int} (hd : decode cc pc = .ok (.if_icmp .eq off, 3)) (ht : (pc : Int) + off = (tgt : Int)) (hp : pc + 3 = pc') (kt : x = y → ps_G Y X (a, M0) tgt lv st M) (kf : ¬ x = y → ps_G Y X (b, M0) pc' lv st M) : ps_G Y X ((if x = y then a else b), M0) pc lv (.int y :: .int x :: st) M := by
  rw [show (((if x = y then a else b), M0) : Int32 × μ) = (if x = y then (a, M0) else (b, M0)) by split <;> rfl]
  exact gw_ic_eq C tgt pc' hd ht hp kt kf
theorem gw_ic_neP {μ : Type} {Y : ps_Y μ} {X : ps_X (Int32 × μ)} {cc : ByteArray} {own : String} {ret : Option FieldType} {f n nL : Nat} (C : ps_C Y X cc own ret f n nL) {a b : Int32} {pc : Nat} {lv : List (Nat × Value)} {st : List Value} {M M0 : μ} (tgt pc' : Nat) {x y : Int32} {off : Int} (hd : decode cc pc = .ok (.if_icmp .ne off, 3)) (ht : (pc : Int) + off = (tgt : Int)) (hp : pc + 3 = pc') (kf : x = y → ps_G Y X (a, M0) pc' lv st M) (kt : ¬ x = y → ps_G Y X (b, M0) tgt lv st M) : ps_G Y X ((if x = y then a else b), M0) pc lv (.int y :: .int x :: st) M := by
  rw [show (((if x = y then a else b), M0) : Int32 × μ) = (if x = y then (a, M0) else (b, M0)) by split <;> rfl]
  exact gw_ic_ne C tgt pc' hd ht hp kf kt
theorem gw_ic_ltP {μ : Type} {Y : ps_Y μ} {X : ps_X (Int32 × μ)} {cc : ByteArray} {own : String} {ret : Option FieldType} {f n nL : Nat} (C : ps_C Y X cc own ret f n nL) {a b : Int32} {pc : Nat} {lv : List (Nat × Value)} {st : List Value} {M M0 : μ} (tgt pc' : Nat) {x y : Int32} {off : Int} (hd : decode cc pc = .ok (.if_icmp .lt off, 3)) (ht : (pc : Int) + off = (tgt : Int)) (hp : pc + 3 = pc') (kt : x < y → ps_G Y X (a, M0) tgt lv st M) (kf : ¬ x < y → ps_G Y X (b, M0) pc' lv st M) : ps_G Y X ((if x < y then a else b), M0) pc lv (.int y :: .int x :: st) M := by
  rw [show (((if x < y then a else b), M0) : Int32 × μ) = (if x < y then (a, M0) else (b, M0)) by split <;> rfl]
  exact gw_ic_lt C tgt pc' hd ht hp kt kf
theorem gw_ic_geP {μ : Type} {Y : ps_Y μ} {X : ps_X (Int32 × μ)} {cc : ByteArray} {own : String} {ret : Option FieldType} {f n nL : Nat} (C : ps_C Y X cc own ret f n nL) {a b : Int32} {pc : Nat} {lv : List (Nat × Value)} {st : List Value} {M M0 : μ} (tgt pc' : Nat) {x y : Int32} {off : Int} (hd : decode cc pc = .ok (.if_icmp .ge off, 3)) (ht : (pc : Int) + off = (tgt : Int)) (hp : pc + 3 = pc') (kt : y ≤ x → ps_G Y X (a, M0) tgt lv st M) (kf : ¬ y ≤ x → ps_G Y X (b, M0) pc' lv st M) : ps_G Y X ((if y ≤ x then a else b), M0) pc lv (.int y :: .int x :: st) M := by
  rw [show (((if y ≤ x then a else b), M0) : Int32 × μ) = (if y ≤ x then (a, M0) else (b, M0)) by split <;> rfl]
  exact gw_ic_ge C tgt pc' hd ht hp kt kf
theorem gw_ic_gtP {μ : Type} {Y : ps_Y μ} {X : ps_X (Int32 × μ)} {cc : ByteArray} {own : String} {ret : Option FieldType} {f n nL : Nat} (C : ps_C Y X cc own ret f n nL) {a b : Int32} {pc : Nat} {lv : List (Nat × Value)} {st : List Value} {M M0 : μ} (tgt pc' : Nat) {x y : Int32} {off : Int} (hd : decode cc pc = .ok (.if_icmp .gt off, 3)) (ht : (pc : Int) + off = (tgt : Int)) (hp : pc + 3 = pc') (kt : y < x → ps_G Y X (a, M0) tgt lv st M) (kf : ¬ y < x → ps_G Y X (b, M0) pc' lv st M) : ps_G Y X ((if y < x then a else b), M0) pc lv (.int y :: .int x :: st) M := by
  rw [show (((if y < x then a else b), M0) : Int32 × μ) = (if y < x then (a, M0) else (b, M0)) by split <;> rfl]
  exact gw_ic_gt C tgt pc' hd ht hp kt kf
theorem gw_ic_leP {μ : Type} {Y : ps_Y μ} {X : ps_X (Int32 × μ)} {cc : ByteArray} {own : String} {ret : Option FieldType} {f n nL : Nat} (C : ps_C Y X cc own ret f n nL) {a b : Int32} {pc : Nat} {lv : List (Nat × Value)} {st : List Value} {M M0 : μ} (tgt pc' : Nat) {x y : Int32} {off : Int} (hd : decode cc pc = .ok (.if_icmp .le off, 3)) (ht : (pc : Int) + off = (tgt : Int)) (hp : pc + 3 = pc') (kt : x ≤ y → ps_G Y X (a, M0) tgt lv st M) (kf : ¬ x ≤ y → ps_G Y X (b, M0) pc' lv st M) : ps_G Y X ((if x ≤ y then a else b), M0) pc lv (.int y :: .int x :: st) M := by
  rw [show (((if x ≤ y then a else b), M0) : Int32 × μ) = (if x ≤ y then (a, M0) else (b, M0)) by split <;> rfl]
  exact gw_ic_le C tgt pc' hd ht hp kt kf
theorem gw_caseP {μ : Type} {Y : ps_Y μ} {X : ps_X (Int32 × μ)} {cc : ByteArray} {own : String} {ret : Option FieldType} {f n nL : Nat} (C : ps_C Y X cc own ret f n nL) {a b : Int32} {pc : Nat} {lv : List (Nat × Value)} {st : List Value} {M M0 : μ} {x : Int32} (v : Int32) (ka : x = v → ps_G Y X (a, M0) pc lv (.int x :: st) M) (kb : ¬ x = v → ps_G Y X (b, M0) pc lv (.int x :: st) M) : ps_G Y X ((if x = v then a else b), M0) pc lv (.int x :: st) M := by
  by_cases h : x = v
  · rw [if_pos h]; exact ka h
  · rw [if_neg h]; exact kb h

theorem gw_case {μ ρ : Type} {Y : ps_Y μ} {X : ps_X ρ} {cc : ByteArray} {own : String} {ret : Option FieldType} {f n nL : Nat} (C : ps_C Y X cc own ret f n nL) {a b : ρ} {pc : Nat} {lv : List (Nat × Value)} {st : List Value} {M : μ} {x : Int32} (v : Int32) (ka : x = v → ps_G Y X a pc lv (.int x :: st) M) (kb : ¬ x = v → ps_G Y X b pc lv (.int x :: st) M) : ps_G Y X (if x = v then a else b) pc lv (.int x :: st) M := by
  by_cases h : x = v
  · rw [if_pos h]; exact ka h
  · rw [if_neg h]; exact kb h
theorem gw_tin {μ ρ : Type} {Y : ps_Y μ} {X : ps_X ρ} {cc : ByteArray} {own : String} {ret : Option FieldType} {f n nL : Nat} (C : ps_C Y X cc own ret f n nL) {r : ρ} {pc : Nat} {lv : List (Nat × Value)} {st : List Value} {M : μ} (tgt : Nat) {x v : Int32} {dflt lo hi : Int} {offs : Array Int} {len : Nat} (vi off : Int) (hxv : x = v) (hv : v.toInt = vi) (hd : decode cc pc = .ok (.tableswitch dflt lo hi offs, len)) (h1 : ¬ vi < lo) (h2 : ¬ hi < vi) (ho : offs[(vi - lo).toNat]? = some off) (ht : (pc : Int) + off = (tgt : Int)) (k : ps_G Y X r tgt lv st M) : ps_G Y X r pc lv (.int x :: st) M := by
  subst hxv; subst hv
  intro H locs ls hP hD hS hl
  obtain ⟨hx, hb, hml, hnL, hown, hts, hr, hlk, hK, hb0, hfr, hlo, hce, hsl⟩ := C
  exact lv_tableIn hx hb hd h1 h2 ho ht (k H locs ls hP hD hS hl)
theorem gw_tout {μ ρ : Type} {Y : ps_Y μ} {X : ps_X ρ} {cc : ByteArray} {own : String} {ret : Option FieldType} {f n nL : Nat} (C : ps_C Y X cc own ret f n nL) {r : ρ} {pc : Nat} {lv : List (Nat × Value)} {st : List Value} {M : μ} (tgt : Nat) {x : Int32} {dflt lo hi : Int} {offs : Array Int} {len : Nat} (hd : decode cc pc = .ok (.tableswitch dflt lo hi offs, len)) (h : x.toInt < lo ∨ hi < x.toInt) (ht : (pc : Int) + dflt = (tgt : Int)) (k : ps_G Y X r tgt lv st M) : ps_G Y X r pc lv (.int x :: st) M := by
  intro H locs ls hP hD hS hl
  obtain ⟨hx, hb, hml, hnL, hown, hts, hr, hlk, hK, hb0, hfr, hlo, hce, hsl⟩ := C
  exact lv_tableOut hx hb hd h ht (k H locs ls hP hD hS hl)
theorem ps_ne_int {x v : Int32} (h : ¬ x = v) {z : Int} (hz : v.toInt = z) : ¬ x.toInt = z := fun q => h (Int32.toInt_inj.mp (by rw [hz]; exact q))
theorem gw_mmax {μ ρ : Type} {Y : ps_Y μ} {X : ps_X ρ} {cc : ByteArray} {own : String} {ret : Option FieldType} {f n nL : Nat} (C : ps_C Y X cc own ret f n nL) {r : ρ} {pc : Nat} {lv : List (Nat × Value)} {st : List Value} {M : μ} (pc' : Nat) {x y : Int32} {z : Nat} (hd : decode cc pc = .ok (.invokestatic z, 3)) (hp : pc + 3 = pc') (hw : Cond.methodLink own z Lib.Math.max.name ∈ ps_T) (hf : 1 ≤ f) (hn : (st.map fun v => v.category).sum + 13 ≤ n) (k : ps_G Y X r pc' lv (.int (if x < y then y else x) :: st) M) : ps_G Y X r pc lv (.int y :: .int x :: st) M := by
  subst hp
  intro H locs ls hP hD hS hl
  obtain ⟨hx, hb, hml, hnL, hown, hts, hr, hlk, hK, hb0, hfr, hlo, hce, hsl⟩ := C
  exact va_mmax hx hb (by rw [hml]; exact hl.1.symm) hown (hts _ hw) (hts _ lkj_max) (hts _ lkj_math) (hts _ lkj_maxc) (Nat.le_trans hf hfr) (Nat.le_trans hn hlo) hce hsl hd (k H locs ls hP hD hS hl)
theorem gw_mmin {μ ρ : Type} {Y : ps_Y μ} {X : ps_X ρ} {cc : ByteArray} {own : String} {ret : Option FieldType} {f n nL : Nat} (C : ps_C Y X cc own ret f n nL) {r : ρ} {pc : Nat} {lv : List (Nat × Value)} {st : List Value} {M : μ} (pc' : Nat) {x y : Int32} {z : Nat} (hd : decode cc pc = .ok (.invokestatic z, 3)) (hp : pc + 3 = pc') (hw : Cond.methodLink own z Lib.Math.min.name ∈ ps_T) (hf : 1 ≤ f) (hn : (st.map fun v => v.category).sum + 13 ≤ n) (k : ps_G Y X r pc' lv (.int (if y < x then y else x) :: st) M) : ps_G Y X r pc lv (.int y :: .int x :: st) M := by
  subst hp
  intro H locs ls hP hD hS hl
  obtain ⟨hx, hb, hml, hnL, hown, hts, hr, hlk, hK, hb0, hfr, hlo, hce, hsl⟩ := C
  exact va_mmin hx hb (by rw [hml]; exact hl.1.symm) hown (hts _ hw) (hts _ lkj_min) (hts _ lkj_math) (hts _ lkj_minc) (Nat.le_trans hf hfr) (Nat.le_trans hn hlo) hce hsl hd (k H locs ls hP hD hS hl)
/-- what the tables say of an instance method, of a static one -/
def ps_yv (y : MethodName) (cy : ByteArray) (nLy : Nat) (ry : Option FieldType) (CN : String) (na : Nat) : Prop := (Cond.instanceMethod y ∈ ps_T ∧ Cond.selects CN y y ∈ ps_T ∧ Cond.initialized CN ∈ ps_T ∧ Cond.code y cy nLy ry ∈ ps_T) ∧ (y.cls = CN ∧ y.cls ≠ "java/lang/invoke/MethodHandle" ∧ y.cls ≠ "java/lang/invoke/VarHandle" ∧ (parseMethodDescriptor y.desc).map (fun d => d.parameters.length) = some na)
def ps_ys (y : MethodName) (cy : ByteArray) (nLy : Nat) (ry : Option FieldType) (na : Nat) : Prop := (Cond.static y ∈ ps_T ∧ Cond.initialized y.cls ∈ ps_T ∧ Cond.code y cy nLy ry ∈ ps_T) ∧ (y.cls ≠ "java/lang/invoke/MethodHandle" ∧ y.cls ≠ "java/lang/invoke/VarHandle" ∧ (parseMethodDescriptor y.desc).map (fun d => d.parameters.length) = some na)
theorem ps_good {w : Cond} (h : w ∈ ps_T) : w ∈ ps_T ∧ ((w.onTables && w.keeps) = true ∨ ∃ ty, w = .arrayClass ty) := ⟨h, (ps_goodT w h).2⟩
theorem ps_gV {own CN : String} {z nLy na : Nat} {y : MethodName} {cy : ByteArray} {ry : Option FieldType} (hy : ps_yv y cy nLy ry CN na) (hl : Cond.methodLink own z y ∈ ps_T) : GoodIn ps_T (wsV own z CN y (.code y cy nLy ry :: ps_T)) := by
  intro w hw
  simp only [wsV, List.cons_append, List.nil_append, List.mem_cons] at hw
  rcases hw with rfl | rfl | rfl | rfl | rfl | h
  · exact ps_good hl
  · exact ps_good hy.1.1
  · exact ps_good hy.1.2.1
  · exact ps_good hy.1.2.2.1
  · exact ps_good hy.1.2.2.2
  · exact ps_good h
theorem ps_gS {own : String} {z nLy na : Nat} {y : MethodName} {cy : ByteArray} {ry : Option FieldType} (hy : ps_ys y cy nLy ry na) (hl : Cond.methodLink own z y ∈ ps_T) : GoodIn ps_T (va_wsS own z y (.code y cy nLy ry :: ps_T)) := by
  intro w hw
  simp only [va_wsS, List.cons_append, List.nil_append, List.mem_cons] at hw
  rcases hw with rfl | rfl | rfl | rfl | h
  · exact ps_good hl
  · exact ps_good hy.1.1
  · exact ps_good hy.1.2.1
  · exact ps_good hy.1.2.2
  · exact ps_good h
theorem ps_blind {μ : Type} {Y : ps_Y μ} {M : μ} {as : List Value} : FrameBlind (va_Pc as (fun U => Y.2.1 ≤ U.heap.size ∧ ps_Wd Y M U)) := fun a U g mk q => by
  obtain ⟨q0, q1, qP, qK, qD⟩ := q
  exact ⟨q0, q1, qP, va_K.moved (u := U) (U := U.calling g mk a) (Vm.Alike.refl U.vm) qK, qD⟩
theorem ps_pre {μ : Type} {Y : ps_Y μ} {M : μ} {as : List Value} {s : State} {H : Heap} (hP : va_P Y.1 vwCl (Y.2.2.2 M) H) (hK : va_K Y.1 vwCl (ps_tys Y.2.2.1) s) (hD : va_D (fun q => Y.2.1 ≤ q) (Y.2.2.2 M)) (hz : Y.2.1 ≤ H.size) : ∀ U : State, U.heap = H → s.WarmedH U.vm → va_Pc as (fun U => Y.2.1 ≤ U.heap.size ∧ ps_Wd Y M U) as.toArray U := fun U hU hW => ⟨rfl, by rw [hU]; exact hz, by rw [hU]; exact hP, va_K.moved hW.alike hK, hD⟩
/-- the receiver: a cell of the world that is an object of the class -/
def ps_rc {μ : Type} (Y : ps_Y μ) (M : μ) (b : Nat) (CN : String) : Prop := ∃ (q0 ci : Nat) (q : vw_C) (fs : List Value), vwCl[ci]? = some q ∧ q.1 = CN ∧ (Y.2.2.2 M)[q0]? = some (b, .inr (ci, fs))
theorem gw_cVi {μ ρ : Type} {Y : ps_Y μ} {X : ps_X ρ} {cc : ByteArray} {own : String} {ret : Option FieldType} {f n nL : Nat} (C : ps_C Y X cc own ret f n nL) {r : ρ} {pc : Nat} {lv : List (Nat × Value)} {st : List Value} {M : μ} (pc' : Nat) {z : Nat} (hd : decode cc pc = .ok (.invokevirtual z, 3)) (hp : pc + 3 = pc') {y : MethodName} {cy : ByteArray} {nLy fy ny na : Nat} {ry : Option FieldType} {CN : String} (hy : ps_yv y cy nLy ry CN na) (hl0 : Cond.methodLink own z y ∈ ps_T) (As : List Value) {b : Nat} (rest : List Value) (hst : st = As.reverse ++ .ref b :: rest) {r0 : Int32 × μ} (hc : ps_CI Y (ps_l X) y cy nLy ry fy ny (.ref b :: As) M r0) (hrc : ps_rc Y M b CN) (hna : As.length = na) (hcat : (rest.map fun v => v.category).sum ≤ 8) (hf : fy + 1 ≤ f) (hn : 8 + (nLy + 11) + ny ≤ n) (k : ps_G Y X r pc' lv (.int r0.1 :: rest) r0.2) : ps_G Y X r pc lv st M := by
  subst hp; subst hst
  intro H locs ls hP hD hS hl
  obtain ⟨hx, hb, hml, hnL, hown, hts, hr, hlk, hK, hb0, hfr, hlo, hce, hsl⟩ := C
  have hz : Y.2.1 ≤ H.size := Nat.le_trans hb0 hS.1
  refine va_calli (va_runV (As := As) (rest := rest) (Ts := ps_T) ⟨hx, hb, hml, hown, hts⟩ hc (cwV na hts (ps_gV hy hl0) rfl rfl rfl hy.2 ⟨Nat.le_trans hf hfr, Nat.le_trans hn hlo⟩) ⟨ps_blind, ?_, ps_pre hP hK hD hz⟩ rfl hna hl.1 rfl (lv_room hcat) hd ⟨hce, hsl⟩) hS (fun q _ h => h) (fun q h => h) (fun x u t H1 locs1 ht hvm hw hB hz1 hk1 hS1 => ?_)
  · obtain ⟨q0, ci, q, fs, h1, h2, h3⟩ := hrc
    rw [← h2]
    exact va_recv hK hP h1 h3
  · obtain ⟨hP1, hK1, hD1⟩ := hB
    rw [ht] at hP1
    subst hw
    exact k H1 locs1 ls hP1 hD1 hS1 hl
theorem gw_cVv {μ ρ : Type} {Y : ps_Y μ} {X : ps_X ρ} {cc : ByteArray} {own : String} {ret : Option FieldType} {f n nL : Nat} (C : ps_C Y X cc own ret f n nL) {r : ρ} {pc : Nat} {lv : List (Nat × Value)} {st : List Value} {M : μ} (pc' : Nat) {z : Nat} (hd : decode cc pc = .ok (.invokevirtual z, 3)) (hp : pc + 3 = pc') {y : MethodName} {cy : ByteArray} {nLy fy ny na : Nat} {CN : String} (hy : ps_yv y cy nLy none CN na) (hl0 : Cond.methodLink own z y ∈ ps_T) (As : List Value) {b : Nat} (rest : List Value) (hst : st = As.reverse ++ .ref b :: rest) {r0 : μ} (hc : ps_CV Y (ps_l X) y cy nLy fy ny (.ref b :: As) M r0) (hrc : ps_rc Y M b CN) (hna : As.length = na) (hcat : (rest.map fun v => v.category).sum ≤ 8) (hf : fy + 1 ≤ f) (hn : 8 + (nLy + 11) + ny ≤ n) (k : ps_G Y X r pc' lv rest r0) : ps_G Y X r pc lv st M := by
  subst hp; subst hst
  intro H locs ls hP hD hS hl
  obtain ⟨hx, hb, hml, hnL, hown, hts, hr, hlk, hK, hb0, hfr, hlo, hce, hsl⟩ := C
  have hz : Y.2.1 ≤ H.size := Nat.le_trans hb0 hS.1
  refine va_callv (va_runV (As := As) (rest := rest) (Ts := ps_T) ⟨hx, hb, hml, hown, hts⟩ hc (cwV na hts (ps_gV hy hl0) rfl rfl rfl hy.2 ⟨Nat.le_trans hf hfr, Nat.le_trans hn hlo⟩) ⟨ps_blind, ?_, ps_pre hP hK hD hz⟩ rfl hna hl.1 rfl (lv_room hcat) hd ⟨hce, hsl⟩) hS (fun q _ h => h) (fun q h => h) (fun u t H1 locs1 ht hvm hw hB hz1 hk1 hS1 => ?_)
  · obtain ⟨q0, ci, q, fs, h1, h2, h3⟩ := hrc
    rw [← h2]
    exact va_recv hK hP h1 h3
  · obtain ⟨hP1, hK1, hD1⟩ := hB
    rw [ht] at hP1
    exact k H1 locs1 ls hP1 hD1 hS1 hl
theorem gw_cVr {μ ρ : Type} {Y : ps_Y μ} {X : ps_X ρ} {cc : ByteArray} {own : String} {ret : Option FieldType} {f n nL : Nat} (C : ps_C Y X cc own ret f n nL) {r : ρ} {pc : Nat} {lv : List (Nat × Value)} {st : List Value} {M : μ} (pc' : Nat) {z : Nat} (hd : decode cc pc = .ok (.invokevirtual z, 3)) (hp : pc + 3 = pc') {y : MethodName} {cy : ByteArray} {nLy fy ny na : Nat} {ry : Option FieldType} {CN : String} (hy : ps_yv y cy nLy ry CN na) (hl0 : Cond.methodLink own z y ∈ ps_T) (As : List Value) {b : Nat} (rest : List Value) (hst : st = As.reverse ++ .ref b :: rest) {r0 : Nat × μ} (hc : ps_CR Y (ps_l X) y cy nLy ry fy ny (.ref b :: As) M r0) (hrc : ps_rc Y M b CN) (hna : As.length = na) (hcat : (rest.map fun v => v.category).sum ≤ 8) (hf : fy + 1 ≤ f) (hn : 8 + (nLy + 11) + ny ≤ n) (k : ps_G Y X r pc' lv (.ref r0.1 :: rest) r0.2) : ps_G Y X r pc lv st M := by
  subst hp; subst hst
  intro H locs ls hP hD hS hl
  obtain ⟨hx, hb, hml, hnL, hown, hts, hr, hlk, hK, hb0, hfr, hlo, hce, hsl⟩ := C
  have hz : Y.2.1 ≤ H.size := Nat.le_trans hb0 hS.1
  refine va_callr (va_runV (As := As) (rest := rest) (Ts := ps_T) ⟨hx, hb, hml, hown, hts⟩ hc (cwV na hts (ps_gV hy hl0) rfl rfl rfl hy.2 ⟨Nat.le_trans hf hfr, Nat.le_trans hn hlo⟩) ⟨ps_blind, ?_, ps_pre hP hK hD hz⟩ rfl hna hl.1 rfl (lv_room hcat) hd ⟨hce, hsl⟩) hS (fun q _ h => h) (fun q h => h) (fun u a t H1 locs1 ht hvm hw hB hz1 hk1 hS1 => ?_)
  · obtain ⟨q0, ci, q, fs, h1, h2, h3⟩ := hrc
    rw [← h2]
    exact va_recv hK hP h1 h3
  · obtain ⟨ha, hP1, hK1, hD1⟩ := hB
    rw [ht] at hP1
    subst ha
    exact k H1 locs1 ls hP1 hD1 hS1 hl
theorem gw_cSi {μ ρ : Type} {Y : ps_Y μ} {X : ps_X ρ} {cc : ByteArray} {own : String} {ret : Option FieldType} {f n nL : Nat} (C : ps_C Y X cc own ret f n nL) {r : ρ} {pc : Nat} {lv : List (Nat × Value)} {st : List Value} {M : μ} (pc' : Nat) {z : Nat} (hd : decode cc pc = .ok (.invokestatic z, 3)) (hp : pc + 3 = pc') {y : MethodName} {cy : ByteArray} {nLy fy ny na : Nat} {ry : Option FieldType} (hy : ps_ys y cy nLy ry na) (hl0 : Cond.methodLink own z y ∈ ps_T) (As : List Value) (rest : List Value) (hst : st = As.reverse ++ rest) {r0 : Int32 × μ} (hc : ps_CI Y (ps_l X) y cy nLy ry fy ny As M r0) (hna : As.length = na) (hcat : (rest.map fun v => v.category).sum ≤ 8) (hf : fy + 1 ≤ f) (hn : 8 + (nLy + 11) + ny ≤ n) (k : ps_G Y X r pc' lv (.int r0.1 :: rest) r0.2) : ps_G Y X r pc lv st M := by
  subst hp; subst hst
  intro H locs ls hP hD hS hl
  obtain ⟨hx, hb, hml, hnL, hown, hts, hr, hlk, hK, hb0, hfr, hlo, hce, hsl⟩ := C
  have hz : Y.2.1 ≤ H.size := Nat.le_trans hb0 hS.1
  refine va_calli (va_runS (As := As) (rest := rest) (Ts := ps_T) ⟨hx, hb, hml, hown, hts⟩ hc (va_cwS na hts (ps_gS hy hl0) rfl rfl rfl hy.2 ⟨Nat.le_trans hf hfr, Nat.le_trans hn hlo⟩) ⟨ps_blind, ps_pre hP hK hD hz⟩ rfl hna hl.1 rfl (lv_room hcat) hd ⟨hce, hsl⟩) hS (fun q _ h => h) (fun q h => h) (fun x u t H1 locs1 ht hvm hw hB hz1 hk1 hS1 => ?_)
  · obtain ⟨hP1, hK1, hD1⟩ := hB
    rw [ht] at hP1
    subst hw
    exact k H1 locs1 ls hP1 hD1 hS1 hl
theorem gw_cSv {μ ρ : Type} {Y : ps_Y μ} {X : ps_X ρ} {cc : ByteArray} {own : String} {ret : Option FieldType} {f n nL : Nat} (C : ps_C Y X cc own ret f n nL) {r : ρ} {pc : Nat} {lv : List (Nat × Value)} {st : List Value} {M : μ} (pc' : Nat) {z : Nat} (hd : decode cc pc = .ok (.invokestatic z, 3)) (hp : pc + 3 = pc') {y : MethodName} {cy : ByteArray} {nLy fy ny na : Nat} (hy : ps_ys y cy nLy none na) (hl0 : Cond.methodLink own z y ∈ ps_T) (As : List Value) (rest : List Value) (hst : st = As.reverse ++ rest) {r0 : μ} (hc : ps_CV Y (ps_l X) y cy nLy fy ny As M r0) (hna : As.length = na) (hcat : (rest.map fun v => v.category).sum ≤ 8) (hf : fy + 1 ≤ f) (hn : 8 + (nLy + 11) + ny ≤ n) (k : ps_G Y X r pc' lv rest r0) : ps_G Y X r pc lv st M := by
  subst hp; subst hst
  intro H locs ls hP hD hS hl
  obtain ⟨hx, hb, hml, hnL, hown, hts, hr, hlk, hK, hb0, hfr, hlo, hce, hsl⟩ := C
  have hz : Y.2.1 ≤ H.size := Nat.le_trans hb0 hS.1
  refine va_callv (va_runS (As := As) (rest := rest) (Ts := ps_T) ⟨hx, hb, hml, hown, hts⟩ hc (va_cwS na hts (ps_gS hy hl0) rfl rfl rfl hy.2 ⟨Nat.le_trans hf hfr, Nat.le_trans hn hlo⟩) ⟨ps_blind, ps_pre hP hK hD hz⟩ rfl hna hl.1 rfl (lv_room hcat) hd ⟨hce, hsl⟩) hS (fun q _ h => h) (fun q h => h) (fun u t H1 locs1 ht hvm hw hB hz1 hk1 hS1 => ?_)
  · obtain ⟨hP1, hK1, hD1⟩ := hB
    rw [ht] at hP1
    exact k H1 locs1 ls hP1 hD1 hS1 hl
theorem gw_cSr {μ ρ : Type} {Y : ps_Y μ} {X : ps_X ρ} {cc : ByteArray} {own : String} {ret : Option FieldType} {f n nL : Nat} (C : ps_C Y X cc own ret f n nL) {r : ρ} {pc : Nat} {lv : List (Nat × Value)} {st : List Value} {M : μ} (pc' : Nat) {z : Nat} (hd : decode cc pc = .ok (.invokestatic z, 3)) (hp : pc + 3 = pc') {y : MethodName} {cy : ByteArray} {nLy fy ny na : Nat} {ry : Option FieldType} (hy : ps_ys y cy nLy ry na) (hl0 : Cond.methodLink own z y ∈ ps_T) (As : List Value) (rest : List Value) (hst : st = As.reverse ++ rest) {r0 : Nat × μ} (hc : ps_CR Y (ps_l X) y cy nLy ry fy ny As M r0) (hna : As.length = na) (hcat : (rest.map fun v => v.category).sum ≤ 8) (hf : fy + 1 ≤ f) (hn : 8 + (nLy + 11) + ny ≤ n) (k : ps_G Y X r pc' lv (.ref r0.1 :: rest) r0.2) : ps_G Y X r pc lv st M := by
  subst hp; subst hst
  intro H locs ls hP hD hS hl
  obtain ⟨hx, hb, hml, hnL, hown, hts, hr, hlk, hK, hb0, hfr, hlo, hce, hsl⟩ := C
  have hz : Y.2.1 ≤ H.size := Nat.le_trans hb0 hS.1
  refine va_callr (va_runS (As := As) (rest := rest) (Ts := ps_T) ⟨hx, hb, hml, hown, hts⟩ hc (va_cwS na hts (ps_gS hy hl0) rfl rfl rfl hy.2 ⟨Nat.le_trans hf hfr, Nat.le_trans hn hlo⟩) ⟨ps_blind, ps_pre hP hK hD hz⟩ rfl hna hl.1 rfl (lv_room hcat) hd ⟨hce, hsl⟩) hS (fun q _ h => h) (fun q h => h) (fun u a t H1 locs1 ht hvm hw hB hz1 hk1 hS1 => ?_)
  · obtain ⟨ha, hP1, hK1, hD1⟩ := hB
    rw [ht] at hP1
    subst ha
    exact k H1 locs1 ls hP1 hD1 hS1 hl
theorem gw_cVp {μ ρ : Type} {Y : ps_Y μ} {X : ps_X ρ} {cc : ByteArray} {own : String} {ret : Option FieldType} {f n nL : Nat} (C : ps_C Y X cc own ret f n nL) {r : ρ} {pc : Nat} {lv : List (Nat × Value)} {st : List Value} {M : μ} (pc' : Nat) {z : Nat} (hd : decode cc pc = .ok (.invokevirtual z, 3)) (hp : pc + 3 = pc') {y : MethodName} {cy : ByteArray} {nLy fy ny na : Nat} {ry : Option FieldType} {CN : String} (hy : ps_yv y cy nLy ry CN na) (hl0 : Cond.methodLink own z y ∈ ps_T) (As : List Value) {b : Nat} (rest : List Value) (hst : st = As.reverse ++ .ref b :: rest) {x0 : Int32} (hc : ps_CI Y (ps_l X) y cy nLy ry fy ny (.ref b :: As) M (x0, M)) (hrc : ps_rc Y M b CN) (hna : As.length = na) (hcat : (rest.map fun v => v.category).sum ≤ 8) (hf : fy + 1 ≤ f) (hn : 8 + (nLy + 11) + ny ≤ n) (k : ps_G Y X r pc' lv (.int x0 :: rest) M) : ps_G Y X r pc lv st M := gw_cVi C pc' hd hp hy hl0 As rest hst hc hrc hna hcat hf hn k
theorem gw_cVq {μ ρ : Type} {Y : ps_Y μ} {X : ps_X ρ} {cc : ByteArray} {own : String} {ret : Option FieldType} {f n nL : Nat} (C : ps_C Y X cc own ret f n nL) {r : ρ} {pc : Nat} {lv : List (Nat × Value)} {st : List Value} {M : μ} (pc' : Nat) {z : Nat} (hd : decode cc pc = .ok (.invokevirtual z, 3)) (hp : pc + 3 = pc') {y : MethodName} {cy : ByteArray} {nLy fy ny na : Nat} {ry : Option FieldType} {CN : String} (hy : ps_yv y cy nLy ry CN na) (hl0 : Cond.methodLink own z y ∈ ps_T) (As : List Value) {b : Nat} (rest : List Value) (hst : st = As.reverse ++ .ref b :: rest) {x0 : Nat} {M1 : μ} (hc : ps_CR Y (ps_l X) y cy nLy ry fy ny (.ref b :: As) M (x0, M1)) (hrc : ps_rc Y M b CN) (hna : As.length = na) (hcat : (rest.map fun v => v.category).sum ≤ 8) (hf : fy + 1 ≤ f) (hn : 8 + (nLy + 11) + ny ≤ n) (k : ps_G Y X r pc' lv (.ref x0 :: rest) M1) : ps_G Y X r pc lv st M := gw_cVr C pc' hd hp hy hl0 As rest hst hc hrc hna hcat hf hn k
theorem gw_cSp {μ ρ : Type} {Y : ps_Y μ} {X : ps_X ρ} {cc : ByteArray} {own : String} {ret : Option FieldType} {f n nL : Nat} (C : ps_C Y X cc own ret f n nL) {r : ρ} {pc : Nat} {lv : List (Nat × Value)} {st : List Value} {M : μ} (pc' : Nat) {z : Nat} (hd : decode cc pc = .ok (.invokestatic z, 3)) (hp : pc + 3 = pc') {y : MethodName} {cy : ByteArray} {nLy fy ny na : Nat} {ry : Option FieldType} (hy : ps_ys y cy nLy ry na) (hl0 : Cond.methodLink own z y ∈ ps_T) (As : List Value) (rest : List Value) (hst : st = As.reverse ++ rest) {x0 : Int32} (hc : ps_CI Y (ps_l X) y cy nLy ry fy ny As M (x0, M)) (hna : As.length = na) (hcat : (rest.map fun v => v.category).sum ≤ 8) (hf : fy + 1 ≤ f) (hn : 8 + (nLy + 11) + ny ≤ n) (k : ps_G Y X r pc' lv (.int x0 :: rest) M) : ps_G Y X r pc lv st M := gw_cSi C pc' hd hp hy hl0 As rest hst hc hna hcat hf hn k
theorem gw_cSq {μ ρ : Type} {Y : ps_Y μ} {X : ps_X ρ} {cc : ByteArray} {own : String} {ret : Option FieldType} {f n nL : Nat} (C : ps_C Y X cc own ret f n nL) {r : ρ} {pc : Nat} {lv : List (Nat × Value)} {st : List Value} {M : μ} (pc' : Nat) {z : Nat} (hd : decode cc pc = .ok (.invokestatic z, 3)) (hp : pc + 3 = pc') {y : MethodName} {cy : ByteArray} {nLy fy ny na : Nat} {ry : Option FieldType} (hy : ps_ys y cy nLy ry na) (hl0 : Cond.methodLink own z y ∈ ps_T) (As : List Value) (rest : List Value) (hst : st = As.reverse ++ rest) {x0 : Nat} {M1 : μ} (hc : ps_CR Y (ps_l X) y cy nLy ry fy ny As M (x0, M1)) (hna : As.length = na) (hcat : (rest.map fun v => v.category).sum ≤ 8) (hf : fy + 1 ≤ f) (hn : 8 + (nLy + 11) + ny ≤ n) (k : ps_G Y X r pc' lv (.ref x0 :: rest) M1) : ps_G Y X r pc lv st M := gw_cSr C pc' hd hp hy hl0 As rest hst hc hna hcat hf hn k
theorem ps_nb0 : narrow .boolean (.int 0) = .int 0 := by decide
theorem ps_nb1 : narrow .boolean (.int 1) = .int 1 := by decide
theorem ps_nb {v : Int32} (h : v = 0 ∨ v = 1) : narrow .boolean (.int v) = .int v := by rcases h with rfl | rfl; exact ps_nb0; exact ps_nb1
def ps_FU : Nat := 1024
end
section
/-! ===== THE CLASS'S CELLS: by number. 0: the object; days at 1, 28, .. 163 (27 cells each: day, row of stations, six stations each with its arrivals, row of clerks, twelve clerks); 190 total with arrivals; 192 history, 193 its row; 194 text, 195 signs, 196 numbers ===== -/
def ps_kd (k : Nat) : Nat :=
  if k = 0 then 1 else if k < 190 then (if (k - 1) % 27 = 0 then 2 else if (k - 1) % 27 = 1 then 3 else if (k - 1) % 27 < 14 then (if (k - 1) % 27 % 2 = 0 then 4 else 5) else if (k - 1) % 27 = 14 then 6 else 7)
  else if k = 190 then 4 else if k = 191 then 5 else if k = 192 then 8 else if k = 193 then 9 else if k = 194 then 10 else if k = 195 then 11 else if k = 196 then 12 else 0
def ps_fT (ad : Nat → Nat) (M : ps_M) (k : Nat) : List Value := [.ref (ad (k + 1)), .ref (ad (k + 2)), .int (M k 2)]
def ps_fK (_ : Nat → Nat) (M : ps_M) (k : Nat) : List Value := [.int (M k 0), .int (M k 1), .int (M k 2), .int (M k 3), .int (M k 4), .int (M k 5)]
def ps_fD (ad : Nat → Nat) (M : ps_M) (k : Nat) : List Value := [.int (M k 0), .int (M k 1), .int (M k 2), .ref (ad (k + 1)), .ref (ad (k + 14))]
def ps_fH (ad : Nat → Nat) (M : ps_M) (k : Nat) : List Value := [.ref (ad (k + 1)), .int (M k 1)]
def ps_fS (ad : Nat → Nat) (M : ps_M) (k : Nat) : List Value := [.ref (ad (k + 1)), .int (M k 1), .int (M k 2), .int (M k 3), .int (M k 4), .int (M k 5), .int (M k 6), .int (M k 7), .int (M k 8), .int (M k 9), .int (M k 10), .int (M k 11), .int (M k 12)]
def ps_fP (ad : Nat → Nat) (M : ps_M) (k : Nat) : List Value := [.ref (ad 1), .ref (ad 28), .ref (ad 55), .int (M k 3), .ref (ad 190), .ref (ad 192), .ref (ad 194)]
abbrev ps_rw (f : Nat → Option Nat) (c : ClassId) (n : Nat) : va_E := .inl (c, n, .inr (.inr (.inr (.inr f))))
def ps_cf (cid : Nat → ClassId) (ad : Nat → Nat) (M : ps_M) (k : Nat) : va_E := match ps_kd k with
  | 1 => .inr (5, ps_fP ad M k)
  | 2 => .inr (2, ps_fD ad M k)
  | 3 => ps_rw (fun i => some (ad (k + 1 + 2 * i))) (cid 2) 6
  | 4 => .inr (4, ps_fS ad M k)
  | 5 => .inl (cid 0, 15, .inl (M k))
  | 6 => ps_rw (fun i => some (ad (k + 1 + i))) (cid 3) 12
  | 7 => .inr (1, ps_fK ad M k)
  | 8 => .inr (3, ps_fH ad M k)
  | 9 => ps_rw (fun i => some (ad (M k i).toNatClampNeg)) (cid 4) 4
  | 10 => .inr (0, ps_fT ad M k)
  | 11 => .inl (cid 1, 60, .inl (M k))
  | 12 => .inl (cid 0, 30, .inl (M k))
  | _ => .inr (99, [])
abbrev ps_ad (E : ps_E) : Nat → Nat := E.2.2.2.1
def ps_wc (E : ps_E) (M : ps_M) : va_W := (List.range 197).map (fun k => (ps_ad E k, ps_cf E.2.2.1 (ps_ad E) M k)) ++ E.2.2.2.2
def ps_Yc (E : ps_E) : ps_Y ps_M := (E.1, E.2.1, E.2.2.1, ps_wc E)
theorem ps_kd_lt {k : Nat} (h : ps_kd k ≠ 0) : k < 197 := by
  rcases Nat.lt_or_ge k 197 with q | q
  · exact q
  · exfalso
    apply h
    unfold ps_kd
    rw [if_neg (by omega), if_neg (by omega), if_neg (by omega), if_neg (by omega), if_neg (by omega), if_neg (by omega), if_neg (by omega), if_neg (by omega), if_neg (by omega)]
theorem ps_cf_congr {cid : Nat → ClassId} {ad : Nat → Nat} {M M' : ps_M} {k : Nat} (h : M' k = M k) : ps_cf cid ad M' k = ps_cf cid ad M k := by
  unfold ps_cf ps_fT ps_fK ps_fD ps_fH ps_fS ps_fP
  rw [h]
theorem ps_wc_at (E : ps_E) (M : ps_M) {k : Nat} (hk : ps_kd k ≠ 0) : (ps_wc E M)[k]? = some (ps_ad E k, ps_cf E.2.2.1 (ps_ad E) M k) := by
  have h := ps_kd_lt hk
  unfold ps_wc
  rw [List.getElem?_append_left (by simpa using h)]
  simp [h]
theorem ps_wc_set (E : ps_E) {M M' : ps_M} {k : Nat} {e : va_E} (hk : ps_kd k ≠ 0) (he : ps_cf E.2.2.1 (ps_ad E) M' k = e) (ho : ∀ j, j ≠ k → M' j = M j) : (ps_wc E M).set k (ps_ad E k, e) = ps_wc E M' := by
  have h := ps_kd_lt hk
  unfold ps_wc
  rw [List.set_append_left _ _ (by simpa using h)]
  congr 1
  apply List.ext_getElem?
  intro j
  by_cases hj : j = k
  · subst hj
    rw [List.getElem?_set_self (by simpa using h)]
    simp [h, he]
  · rw [List.getElem?_set_ne (Ne.symm hj)]
    simp only [List.getElem?_map]
    cases hr : (List.range 197)[j]? with
    | none => rfl
    | some i =>
      have hi : i = j := by
        rw [List.getElem?_range] at hr
        · exact (Option.some.inj hr).symm
        · have := (List.getElem?_eq_some_iff.mp hr).1
          simpa using this
      subst hi
      show some (ps_ad E i, ps_cf _ _ M i) = some (ps_ad E i, ps_cf _ _ M' i)
      rw [ps_cf_congr (ho i hj)]
theorem ps_recv {E : ps_E} {M : ps_M} {k ci : Nat} {q : vw_C} {fs : List Value} (hk : ps_kd k ≠ 0) (hc : vwCl[ci]? = some q) (he : ps_cf E.2.2.1 (ps_ad E) M k = .inr (ci, fs)) : ps_rc (ps_Yc E) M (ps_ad E k) q.1 := ⟨k, ci, q, fs, hc, rfl, (ps_wc_at E M hk).trans (by rw [he])⟩
theorem ps_cf_1 {cid : Nat → ClassId} {ad : Nat → Nat} {M : ps_M} {k : Nat} (h : ps_kd k = 1) : ps_cf cid ad M k = .inr (5, ps_fP ad M k) := by unfold ps_cf; rw [h]; rfl
theorem ps_cf_2 {cid : Nat → ClassId} {ad : Nat → Nat} {M : ps_M} {k : Nat} (h : ps_kd k = 2) : ps_cf cid ad M k = .inr (2, ps_fD ad M k) := by unfold ps_cf; rw [h]; rfl
theorem ps_cf_3 {cid : Nat → ClassId} {ad : Nat → Nat} {M : ps_M} {k : Nat} (h : ps_kd k = 3) : ps_cf cid ad M k = ps_rw (fun i => some (ad (k + 1 + 2 * i))) (cid 2) 6 := by unfold ps_cf; rw [h]; rfl
theorem ps_cf_4 {cid : Nat → ClassId} {ad : Nat → Nat} {M : ps_M} {k : Nat} (h : ps_kd k = 4) : ps_cf cid ad M k = .inr (4, ps_fS ad M k) := by unfold ps_cf; rw [h]; rfl
theorem ps_cf_5 {cid : Nat → ClassId} {ad : Nat → Nat} {M : ps_M} {k : Nat} (h : ps_kd k = 5) : ps_cf cid ad M k = .inl (cid 0, 15, .inl (M k)) := by unfold ps_cf; rw [h]; rfl
theorem ps_cf_6 {cid : Nat → ClassId} {ad : Nat → Nat} {M : ps_M} {k : Nat} (h : ps_kd k = 6) : ps_cf cid ad M k = ps_rw (fun i => some (ad (k + 1 + i))) (cid 3) 12 := by unfold ps_cf; rw [h]; rfl
theorem ps_cf_7 {cid : Nat → ClassId} {ad : Nat → Nat} {M : ps_M} {k : Nat} (h : ps_kd k = 7) : ps_cf cid ad M k = .inr (1, ps_fK ad M k) := by unfold ps_cf; rw [h]; rfl
theorem ps_cf_8 {cid : Nat → ClassId} {ad : Nat → Nat} {M : ps_M} {k : Nat} (h : ps_kd k = 8) : ps_cf cid ad M k = .inr (3, ps_fH ad M k) := by unfold ps_cf; rw [h]; rfl
theorem ps_cf_9 {cid : Nat → ClassId} {ad : Nat → Nat} {M : ps_M} {k : Nat} (h : ps_kd k = 9) : ps_cf cid ad M k = ps_rw (fun i => some (ad (M k i).toNatClampNeg)) (cid 4) 4 := by unfold ps_cf; rw [h]; rfl
theorem ps_cf_10 {cid : Nat → ClassId} {ad : Nat → Nat} {M : ps_M} {k : Nat} (h : ps_kd k = 10) : ps_cf cid ad M k = .inr (0, ps_fT ad M k) := by unfold ps_cf; rw [h]; rfl
theorem ps_cf_11 {cid : Nat → ClassId} {ad : Nat → Nat} {M : ps_M} {k : Nat} (h : ps_kd k = 11) : ps_cf cid ad M k = .inl (cid 1, 60, .inl (M k)) := by unfold ps_cf; rw [h]; rfl
theorem ps_cf_12 {cid : Nat → ClassId} {ad : Nat → Nat} {M : ps_M} {k : Nat} (h : ps_kd k = 12) : ps_cf cid ad M k = .inl (cid 0, 30, .inl (M k)) := by unfold ps_cf; rw [h]; rfl
theorem ps_at_1 (E : ps_E) (M : ps_M) {k : Nat} (h : ps_kd k = 1) : (ps_wc E M)[k]? = some (ps_ad E k, .inr (5, ps_fP (ps_ad E) M k)) := (ps_wc_at E M (k := k) (by omega)).trans (by rw [ps_cf_1 h])
theorem ps_at_2 (E : ps_E) (M : ps_M) {k : Nat} (h : ps_kd k = 2) : (ps_wc E M)[k]? = some (ps_ad E k, .inr (2, ps_fD (ps_ad E) M k)) := (ps_wc_at E M (k := k) (by omega)).trans (by rw [ps_cf_2 h])
theorem ps_at_3 (E : ps_E) (M : ps_M) {k : Nat} (h : ps_kd k = 3) : (ps_wc E M)[k]? = some (ps_ad E k, ps_rw (fun i => some (ps_ad E (k + 1 + 2 * i))) (E.2.2.1 2) 6) := (ps_wc_at E M (k := k) (by omega)).trans (by rw [ps_cf_3 h])
theorem ps_at_4 (E : ps_E) (M : ps_M) {k : Nat} (h : ps_kd k = 4) : (ps_wc E M)[k]? = some (ps_ad E k, .inr (4, ps_fS (ps_ad E) M k)) := (ps_wc_at E M (k := k) (by omega)).trans (by rw [ps_cf_4 h])
theorem ps_at_5 (E : ps_E) (M : ps_M) {k : Nat} (h : ps_kd k = 5) : (ps_wc E M)[k]? = some (ps_ad E k, .inl (E.2.2.1 0, 15, .inl (M k))) := (ps_wc_at E M (k := k) (by omega)).trans (by rw [ps_cf_5 h])
theorem ps_at_6 (E : ps_E) (M : ps_M) {k : Nat} (h : ps_kd k = 6) : (ps_wc E M)[k]? = some (ps_ad E k, ps_rw (fun i => some (ps_ad E (k + 1 + i))) (E.2.2.1 3) 12) := (ps_wc_at E M (k := k) (by omega)).trans (by rw [ps_cf_6 h])
theorem ps_at_7 (E : ps_E) (M : ps_M) {k : Nat} (h : ps_kd k = 7) : (ps_wc E M)[k]? = some (ps_ad E k, .inr (1, ps_fK (ps_ad E) M k)) := (ps_wc_at E M (k := k) (by omega)).trans (by rw [ps_cf_7 h])
theorem ps_at_8 (E : ps_E) (M : ps_M) {k : Nat} (h : ps_kd k = 8) : (ps_wc E M)[k]? = some (ps_ad E k, .inr (3, ps_fH (ps_ad E) M k)) := (ps_wc_at E M (k := k) (by omega)).trans (by rw [ps_cf_8 h])
theorem ps_at_9 (E : ps_E) (M : ps_M) {k : Nat} (h : ps_kd k = 9) : (ps_wc E M)[k]? = some (ps_ad E k, ps_rw (fun i => some (ps_ad E (M k i).toNatClampNeg)) (E.2.2.1 4) 4) := (ps_wc_at E M (k := k) (by omega)).trans (by rw [ps_cf_9 h])
theorem ps_at_10 (E : ps_E) (M : ps_M) {k : Nat} (h : ps_kd k = 10) : (ps_wc E M)[k]? = some (ps_ad E k, .inr (0, ps_fT (ps_ad E) M k)) := (ps_wc_at E M (k := k) (by omega)).trans (by rw [ps_cf_10 h])
theorem ps_at_11 (E : ps_E) (M : ps_M) {k : Nat} (h : ps_kd k = 11) : (ps_wc E M)[k]? = some (ps_ad E k, .inl (E.2.2.1 1, 60, .inl (M k))) := (ps_wc_at E M (k := k) (by omega)).trans (by rw [ps_cf_11 h])
theorem ps_at_12 (E : ps_E) (M : ps_M) {k : Nat} (h : ps_kd k = 12) : (ps_wc E M)[k]? = some (ps_ad E k, .inl (E.2.2.1 0, 30, .inl (M k))) := (ps_wc_at E M (k := k) (by omega)).trans (by rw [ps_cf_12 h])
/-! kinds of the cells that a reference leads to -/
theorem kd_d1 {d : Nat} (h : ps_kd d = 2) : ps_kd (d + 1) = 3 := by
  have hl := ps_kd_lt (k := d) (by omega)
  revert h; revert d; decide +kernel
theorem kd_d14 {d : Nat} (h : ps_kd d = 2) : ps_kd (d + 14) = 6 := by
  have hl := ps_kd_lt (k := d) (by omega)
  revert h; revert d; decide +kernel
theorem kd_s1 {d : Nat} (h : ps_kd d = 4) : ps_kd (d + 1) = 5 := by
  have hl := ps_kd_lt (k := d) (by omega)
  revert h; revert d; decide +kernel
theorem kd_S0 : ∀ d : Nat, d < 197 → ps_kd d = 3 → ∀ i, i < 6 → ps_kd (d + 1 + 2 * i) = 4 := by decide +kernel
theorem kd_K0 : ∀ d : Nat, d < 197 → ps_kd d = 6 → ∀ i, i < 12 → ps_kd (d + 1 + i) = 7 := by decide +kernel
theorem ps_vlt {x : Int32} {n : Nat} (h : vp_in x n) : x.toNatClampNeg < n := Nat.not_le.mp fun q => h (Or.inr q)
theorem kd_S {d : Nat} (h : ps_kd d = 3) {x : Int32} (hx : vp_in x 6) : ps_kd (d + 1 + 2 * x.toNatClampNeg) = 4 := kd_S0 d (ps_kd_lt (by omega)) h _ (ps_vlt hx)
theorem kd_K {d : Nat} (h : ps_kd d = 6) {x : Int32} (hx : vp_in x 12) : ps_kd (d + 1 + x.toNatClampNeg) = 7 := kd_K0 d (ps_kd_lt (by omega)) h _ (ps_vlt hx)
theorem kd_h1 {d : Nat} (h : ps_kd d = 8) : ps_kd (d + 1) = 9 := by
  have hl := ps_kd_lt (k := d) (by omega)
  revert h; revert d; decide +kernel
theorem kd_t1 {d : Nat} (h : ps_kd d = 10) : ps_kd (d + 1) = 11 := by
  have hl := ps_kd_lt (k := d) (by omega)
  revert h; revert d; decide +kernel
theorem kd_t2 {d : Nat} (h : ps_kd d = 10) : ps_kd (d + 2) = 12 := by
  have hl := ps_kd_lt (k := d) (by omega)
  revert h; revert d; decide +kernel
theorem gw_getT {E : ps_E} {ρ : Type} {X : ps_X ρ} {cc : ByteArray} {own : String} {ret : Option FieldType} {f n nL : Nat} (C : ps_C (ps_Yc E) X cc own ret f n nL) {r : ρ} {pc : Nat} {lv : List (Nat × Value)} {st : List Value} {M : ps_M} (pc' : Nat) {z : Nat} (hd : decode cc pc = .ok (.getfield z, 3)) (hp : pc + 3 = pc') {d : Nat} (hk : ps_kd d = 10) (j : Nat) (hj : j < 3) (hw : Cond.fieldLink own z RX0 (TX0 j).2.1 (TX0 j).2.2.1 ∈ ps_T) (hs : (TX0 j).1 = RX0) {v : Value} (hv : (ps_fT (ps_ad E) M d)[j]? = some v) (k : ps_G (ps_Yc E) X r pc' lv (v :: st) M) : ps_G (ps_Yc E) X r pc lv (.ref (ps_ad E d) :: st) M := by
  subst hp
  intro H locs ls hP hD hS hl
  obtain ⟨hx, hb, hml, hnL, hown, hts, hr, hlk, hK, hb0, hfr, hlo, hce, hsl⟩ := C
  exact va_get (D := E.1) (ci := 0) (C := RX0) (T := TX0) (N := 3) hx hb hts hinX0 hown hK hP d (ps_at_10 E M hk) rfl j hj (hts _ hw) (fun x h => by rw [← hs]; exact h) hv hd (k H locs ls hP hD hS hl)
theorem ps_setT {E : ps_E} {M : ps_M} {d : Nat} (hk : ps_kd d = 10) {j : Nat} (hj : j = 2) (v : Int32) : (ps_wc E M).set d (ps_ad E d, .inr (0, (ps_fT (ps_ad E) M d).set j (.int v))) = ps_wc E (ps_st M d j v) := by
  refine ps_wc_set E (by omega) ?_ (fun i hi => ps_st_ne hi)
  rw [ps_cf_10 hk]
  rcases hj with rfl <;> simp [ps_fT, ps_st]
theorem gw_putT {E : ps_E} {ρ : Type} {X : ps_X ρ} {cc : ByteArray} {own : String} {ret : Option FieldType} {f n nL : Nat} (C : ps_C (ps_Yc E) X cc own ret f n nL) {r : ρ} {pc : Nat} {lv : List (Nat × Value)} {st : List Value} {M : ps_M} (pc' : Nat) {z : Nat} (hd : decode cc pc = .ok (.putfield z, 3)) (hp : pc + 3 = pc') {d : Nat} (hk : ps_kd d = 10) (j : Nat) (hj : j = 2) (hw : Cond.fieldLink own z RX0 (TX0 j).2.1 (TX0 j).2.2.1 ∈ ps_T) (hs : (TX0 j).1 = RX0) {ty : FieldType} (hfin : (TX0 j).2.2.2 = false) (hty : parseFieldDescriptor (TX0 j).2.2.1 = some ty) {v : Int32} (hn9 : narrow ty (.int v) = .int v) (hfit : fits ty (.int v) = true) (k : ps_G (ps_Yc E) X r pc' lv st (ps_st M d j v)) : ps_G (ps_Yc E) X r pc lv (.int v :: .ref (ps_ad E d) :: st) M := by
  subst hp
  intro H locs ls hP hD hS hl
  obtain ⟨hx, hb, hml, hnL, hown, hts, hr, hlk, hK, hb0, hfr, hlo, hce, hsl⟩ := C
  refine va_put (D := E.1) (ci := 0) (C := RX0) (T := TX0) (N := 3) hx hb hts hinX0 tyX0 tyX0_ok nmX0 hown hK hP hD hS d (ps_at_10 E M hk) rfl j (by omega) (hts _ hw) (fun x h => by rw [← hs]; exact h) hfin hty hn9 hfit (by show j < 3; omega) hd (fun H1 locs1 hP1 hD1 hS1 => ?_)
  have e := ps_setT (E := E) (M := M) hk hj v
  exact k H1 locs1 ls (by show va_P _ _ (ps_wc E _) _; rw [← e]; exact hP1) (by show va_D _ (ps_wc E _); rw [← e]; exact hD1) hS1 hl
theorem gw_getK {E : ps_E} {ρ : Type} {X : ps_X ρ} {cc : ByteArray} {own : String} {ret : Option FieldType} {f n nL : Nat} (C : ps_C (ps_Yc E) X cc own ret f n nL) {r : ρ} {pc : Nat} {lv : List (Nat × Value)} {st : List Value} {M : ps_M} (pc' : Nat) {z : Nat} (hd : decode cc pc = .ok (.getfield z, 3)) (hp : pc + 3 = pc') {d : Nat} (hk : ps_kd d = 7) (j : Nat) (hj : j < 6) (hw : Cond.fieldLink own z RX1 (TX1 j).2.1 (TX1 j).2.2.1 ∈ ps_T) (hs : (TX1 j).1 = RX1) {v : Value} (hv : (ps_fK (ps_ad E) M d)[j]? = some v) (k : ps_G (ps_Yc E) X r pc' lv (v :: st) M) : ps_G (ps_Yc E) X r pc lv (.ref (ps_ad E d) :: st) M := by
  subst hp
  intro H locs ls hP hD hS hl
  obtain ⟨hx, hb, hml, hnL, hown, hts, hr, hlk, hK, hb0, hfr, hlo, hce, hsl⟩ := C
  exact va_get (D := E.1) (ci := 1) (C := RX1) (T := TX1) (N := 6) hx hb hts hinX1 hown hK hP d (ps_at_7 E M hk) rfl j hj (hts _ hw) (fun x h => by rw [← hs]; exact h) hv hd (k H locs ls hP hD hS hl)
theorem ps_setK {E : ps_E} {M : ps_M} {d : Nat} (hk : ps_kd d = 7) {j : Nat} (hj : j = 0 ∨ j = 1 ∨ j = 2 ∨ j = 3 ∨ j = 4 ∨ j = 5) (v : Int32) : (ps_wc E M).set d (ps_ad E d, .inr (1, (ps_fK (ps_ad E) M d).set j (.int v))) = ps_wc E (ps_st M d j v) := by
  refine ps_wc_set E (by omega) ?_ (fun i hi => ps_st_ne hi)
  rw [ps_cf_7 hk]
  rcases hj with rfl | rfl | rfl | rfl | rfl | rfl <;> simp [ps_fK, ps_st]
theorem gw_putK {E : ps_E} {ρ : Type} {X : ps_X ρ} {cc : ByteArray} {own : String} {ret : Option FieldType} {f n nL : Nat} (C : ps_C (ps_Yc E) X cc own ret f n nL) {r : ρ} {pc : Nat} {lv : List (Nat × Value)} {st : List Value} {M : ps_M} (pc' : Nat) {z : Nat} (hd : decode cc pc = .ok (.putfield z, 3)) (hp : pc + 3 = pc') {d : Nat} (hk : ps_kd d = 7) (j : Nat) (hj : j = 0 ∨ j = 1 ∨ j = 2 ∨ j = 3 ∨ j = 4 ∨ j = 5) (hw : Cond.fieldLink own z RX1 (TX1 j).2.1 (TX1 j).2.2.1 ∈ ps_T) (hs : (TX1 j).1 = RX1) {ty : FieldType} (hfin : (TX1 j).2.2.2 = false) (hty : parseFieldDescriptor (TX1 j).2.2.1 = some ty) {v : Int32} (hn9 : narrow ty (.int v) = .int v) (hfit : fits ty (.int v) = true) (k : ps_G (ps_Yc E) X r pc' lv st (ps_st M d j v)) : ps_G (ps_Yc E) X r pc lv (.int v :: .ref (ps_ad E d) :: st) M := by
  subst hp
  intro H locs ls hP hD hS hl
  obtain ⟨hx, hb, hml, hnL, hown, hts, hr, hlk, hK, hb0, hfr, hlo, hce, hsl⟩ := C
  refine va_put (D := E.1) (ci := 1) (C := RX1) (T := TX1) (N := 6) hx hb hts hinX1 tyX1 tyX1_ok nmX1 hown hK hP hD hS d (ps_at_7 E M hk) rfl j (by omega) (hts _ hw) (fun x h => by rw [← hs]; exact h) hfin hty hn9 hfit (by show j < 6; omega) hd (fun H1 locs1 hP1 hD1 hS1 => ?_)
  have e := ps_setK (E := E) (M := M) hk hj v
  exact k H1 locs1 ls (by show va_P _ _ (ps_wc E _) _; rw [← e]; exact hP1) (by show va_D _ (ps_wc E _); rw [← e]; exact hD1) hS1 hl
theorem gw_getD {E : ps_E} {ρ : Type} {X : ps_X ρ} {cc : ByteArray} {own : String} {ret : Option FieldType} {f n nL : Nat} (C : ps_C (ps_Yc E) X cc own ret f n nL) {r : ρ} {pc : Nat} {lv : List (Nat × Value)} {st : List Value} {M : ps_M} (pc' : Nat) {z : Nat} (hd : decode cc pc = .ok (.getfield z, 3)) (hp : pc + 3 = pc') {d : Nat} (hk : ps_kd d = 2) (j : Nat) (hj : j < 5) (hw : Cond.fieldLink own z RX2 (TX2 j).2.1 (TX2 j).2.2.1 ∈ ps_T) (hs : (TX2 j).1 = RX2) {v : Value} (hv : (ps_fD (ps_ad E) M d)[j]? = some v) (k : ps_G (ps_Yc E) X r pc' lv (v :: st) M) : ps_G (ps_Yc E) X r pc lv (.ref (ps_ad E d) :: st) M := by
  subst hp
  intro H locs ls hP hD hS hl
  obtain ⟨hx, hb, hml, hnL, hown, hts, hr, hlk, hK, hb0, hfr, hlo, hce, hsl⟩ := C
  exact va_get (D := E.1) (ci := 2) (C := RX2) (T := TX2) (N := 5) hx hb hts hinX2 hown hK hP d (ps_at_2 E M hk) rfl j hj (hts _ hw) (fun x h => by rw [← hs]; exact h) hv hd (k H locs ls hP hD hS hl)
theorem ps_setD {E : ps_E} {M : ps_M} {d : Nat} (hk : ps_kd d = 2) {j : Nat} (hj : j = 0 ∨ j = 1 ∨ j = 2) (v : Int32) : (ps_wc E M).set d (ps_ad E d, .inr (2, (ps_fD (ps_ad E) M d).set j (.int v))) = ps_wc E (ps_st M d j v) := by
  refine ps_wc_set E (by omega) ?_ (fun i hi => ps_st_ne hi)
  rw [ps_cf_2 hk]
  rcases hj with rfl | rfl | rfl <;> simp [ps_fD, ps_st]
theorem gw_putD {E : ps_E} {ρ : Type} {X : ps_X ρ} {cc : ByteArray} {own : String} {ret : Option FieldType} {f n nL : Nat} (C : ps_C (ps_Yc E) X cc own ret f n nL) {r : ρ} {pc : Nat} {lv : List (Nat × Value)} {st : List Value} {M : ps_M} (pc' : Nat) {z : Nat} (hd : decode cc pc = .ok (.putfield z, 3)) (hp : pc + 3 = pc') {d : Nat} (hk : ps_kd d = 2) (j : Nat) (hj : j = 0 ∨ j = 1 ∨ j = 2) (hw : Cond.fieldLink own z RX2 (TX2 j).2.1 (TX2 j).2.2.1 ∈ ps_T) (hs : (TX2 j).1 = RX2) {ty : FieldType} (hfin : (TX2 j).2.2.2 = false) (hty : parseFieldDescriptor (TX2 j).2.2.1 = some ty) {v : Int32} (hn9 : narrow ty (.int v) = .int v) (hfit : fits ty (.int v) = true) (k : ps_G (ps_Yc E) X r pc' lv st (ps_st M d j v)) : ps_G (ps_Yc E) X r pc lv (.int v :: .ref (ps_ad E d) :: st) M := by
  subst hp
  intro H locs ls hP hD hS hl
  obtain ⟨hx, hb, hml, hnL, hown, hts, hr, hlk, hK, hb0, hfr, hlo, hce, hsl⟩ := C
  refine va_put (D := E.1) (ci := 2) (C := RX2) (T := TX2) (N := 5) hx hb hts hinX2 tyX2 tyX2_ok nmX2 hown hK hP hD hS d (ps_at_2 E M hk) rfl j (by omega) (hts _ hw) (fun x h => by rw [← hs]; exact h) hfin hty hn9 hfit (by show j < 5; omega) hd (fun H1 locs1 hP1 hD1 hS1 => ?_)
  have e := ps_setD (E := E) (M := M) hk hj v
  exact k H1 locs1 ls (by show va_P _ _ (ps_wc E _) _; rw [← e]; exact hP1) (by show va_D _ (ps_wc E _); rw [← e]; exact hD1) hS1 hl
theorem gw_getH {E : ps_E} {ρ : Type} {X : ps_X ρ} {cc : ByteArray} {own : String} {ret : Option FieldType} {f n nL : Nat} (C : ps_C (ps_Yc E) X cc own ret f n nL) {r : ρ} {pc : Nat} {lv : List (Nat × Value)} {st : List Value} {M : ps_M} (pc' : Nat) {z : Nat} (hd : decode cc pc = .ok (.getfield z, 3)) (hp : pc + 3 = pc') {d : Nat} (hk : ps_kd d = 8) (j : Nat) (hj : j < 2) (hw : Cond.fieldLink own z RX3 (TX3 j).2.1 (TX3 j).2.2.1 ∈ ps_T) (hs : (TX3 j).1 = RX3) {v : Value} (hv : (ps_fH (ps_ad E) M d)[j]? = some v) (k : ps_G (ps_Yc E) X r pc' lv (v :: st) M) : ps_G (ps_Yc E) X r pc lv (.ref (ps_ad E d) :: st) M := by
  subst hp
  intro H locs ls hP hD hS hl
  obtain ⟨hx, hb, hml, hnL, hown, hts, hr, hlk, hK, hb0, hfr, hlo, hce, hsl⟩ := C
  exact va_get (D := E.1) (ci := 3) (C := RX3) (T := TX3) (N := 2) hx hb hts hinX3 hown hK hP d (ps_at_8 E M hk) rfl j hj (hts _ hw) (fun x h => by rw [← hs]; exact h) hv hd (k H locs ls hP hD hS hl)
theorem ps_setH {E : ps_E} {M : ps_M} {d : Nat} (hk : ps_kd d = 8) {j : Nat} (hj : j = 1) (v : Int32) : (ps_wc E M).set d (ps_ad E d, .inr (3, (ps_fH (ps_ad E) M d).set j (.int v))) = ps_wc E (ps_st M d j v) := by
  refine ps_wc_set E (by omega) ?_ (fun i hi => ps_st_ne hi)
  rw [ps_cf_8 hk]
  rcases hj with rfl <;> simp [ps_fH, ps_st]
theorem gw_putH {E : ps_E} {ρ : Type} {X : ps_X ρ} {cc : ByteArray} {own : String} {ret : Option FieldType} {f n nL : Nat} (C : ps_C (ps_Yc E) X cc own ret f n nL) {r : ρ} {pc : Nat} {lv : List (Nat × Value)} {st : List Value} {M : ps_M} (pc' : Nat) {z : Nat} (hd : decode cc pc = .ok (.putfield z, 3)) (hp : pc + 3 = pc') {d : Nat} (hk : ps_kd d = 8) (j : Nat) (hj : j = 1) (hw : Cond.fieldLink own z RX3 (TX3 j).2.1 (TX3 j).2.2.1 ∈ ps_T) (hs : (TX3 j).1 = RX3) {ty : FieldType} (hfin : (TX3 j).2.2.2 = false) (hty : parseFieldDescriptor (TX3 j).2.2.1 = some ty) {v : Int32} (hn9 : narrow ty (.int v) = .int v) (hfit : fits ty (.int v) = true) (k : ps_G (ps_Yc E) X r pc' lv st (ps_st M d j v)) : ps_G (ps_Yc E) X r pc lv (.int v :: .ref (ps_ad E d) :: st) M := by
  subst hp
  intro H locs ls hP hD hS hl
  obtain ⟨hx, hb, hml, hnL, hown, hts, hr, hlk, hK, hb0, hfr, hlo, hce, hsl⟩ := C
  refine va_put (D := E.1) (ci := 3) (C := RX3) (T := TX3) (N := 2) hx hb hts hinX3 tyX3 tyX3_ok nmX3 hown hK hP hD hS d (ps_at_8 E M hk) rfl j (by omega) (hts _ hw) (fun x h => by rw [← hs]; exact h) hfin hty hn9 hfit (by show j < 2; omega) hd (fun H1 locs1 hP1 hD1 hS1 => ?_)
  have e := ps_setH (E := E) (M := M) hk hj v
  exact k H1 locs1 ls (by show va_P _ _ (ps_wc E _) _; rw [← e]; exact hP1) (by show va_D _ (ps_wc E _); rw [← e]; exact hD1) hS1 hl
theorem gw_getS {E : ps_E} {ρ : Type} {X : ps_X ρ} {cc : ByteArray} {own : String} {ret : Option FieldType} {f n nL : Nat} (C : ps_C (ps_Yc E) X cc own ret f n nL) {r : ρ} {pc : Nat} {lv : List (Nat × Value)} {st : List Value} {M : ps_M} (pc' : Nat) {z : Nat} (hd : decode cc pc = .ok (.getfield z, 3)) (hp : pc + 3 = pc') {d : Nat} (hk : ps_kd d = 4) (j : Nat) (hj : j < 13) (hw : Cond.fieldLink own z RX4 (TX4 j).2.1 (TX4 j).2.2.1 ∈ ps_T) (hs : (TX4 j).1 = RX4) {v : Value} (hv : (ps_fS (ps_ad E) M d)[j]? = some v) (k : ps_G (ps_Yc E) X r pc' lv (v :: st) M) : ps_G (ps_Yc E) X r pc lv (.ref (ps_ad E d) :: st) M := by
  subst hp
  intro H locs ls hP hD hS hl
  obtain ⟨hx, hb, hml, hnL, hown, hts, hr, hlk, hK, hb0, hfr, hlo, hce, hsl⟩ := C
  exact va_get (D := E.1) (ci := 4) (C := RX4) (T := TX4) (N := 13) hx hb hts hinX4 hown hK hP d (ps_at_4 E M hk) rfl j hj (hts _ hw) (fun x h => by rw [← hs]; exact h) hv hd (k H locs ls hP hD hS hl)
theorem ps_setS {E : ps_E} {M : ps_M} {d : Nat} (hk : ps_kd d = 4) {j : Nat} (hj : j = 1 ∨ j = 2 ∨ j = 3 ∨ j = 4 ∨ j = 5 ∨ j = 6 ∨ j = 7 ∨ j = 8 ∨ j = 9 ∨ j = 10 ∨ j = 11 ∨ j = 12) (v : Int32) : (ps_wc E M).set d (ps_ad E d, .inr (4, (ps_fS (ps_ad E) M d).set j (.int v))) = ps_wc E (ps_st M d j v) := by
  refine ps_wc_set E (by omega) ?_ (fun i hi => ps_st_ne hi)
  rw [ps_cf_4 hk]
  rcases hj with rfl | rfl | rfl | rfl | rfl | rfl | rfl | rfl | rfl | rfl | rfl | rfl <;> simp [ps_fS, ps_st]
theorem gw_putS {E : ps_E} {ρ : Type} {X : ps_X ρ} {cc : ByteArray} {own : String} {ret : Option FieldType} {f n nL : Nat} (C : ps_C (ps_Yc E) X cc own ret f n nL) {r : ρ} {pc : Nat} {lv : List (Nat × Value)} {st : List Value} {M : ps_M} (pc' : Nat) {z : Nat} (hd : decode cc pc = .ok (.putfield z, 3)) (hp : pc + 3 = pc') {d : Nat} (hk : ps_kd d = 4) (j : Nat) (hj : j = 1 ∨ j = 2 ∨ j = 3 ∨ j = 4 ∨ j = 5 ∨ j = 6 ∨ j = 7 ∨ j = 8 ∨ j = 9 ∨ j = 10 ∨ j = 11 ∨ j = 12) (hw : Cond.fieldLink own z RX4 (TX4 j).2.1 (TX4 j).2.2.1 ∈ ps_T) (hs : (TX4 j).1 = RX4) {ty : FieldType} (hfin : (TX4 j).2.2.2 = false) (hty : parseFieldDescriptor (TX4 j).2.2.1 = some ty) {v : Int32} (hn9 : narrow ty (.int v) = .int v) (hfit : fits ty (.int v) = true) (k : ps_G (ps_Yc E) X r pc' lv st (ps_st M d j v)) : ps_G (ps_Yc E) X r pc lv (.int v :: .ref (ps_ad E d) :: st) M := by
  subst hp
  intro H locs ls hP hD hS hl
  obtain ⟨hx, hb, hml, hnL, hown, hts, hr, hlk, hK, hb0, hfr, hlo, hce, hsl⟩ := C
  refine va_put (D := E.1) (ci := 4) (C := RX4) (T := TX4) (N := 13) hx hb hts hinX4 tyX4 tyX4_ok nmX4 hown hK hP hD hS d (ps_at_4 E M hk) rfl j (by omega) (hts _ hw) (fun x h => by rw [← hs]; exact h) hfin hty hn9 hfit (by show j < 13; omega) hd (fun H1 locs1 hP1 hD1 hS1 => ?_)
  have e := ps_setS (E := E) (M := M) hk hj v
  exact k H1 locs1 ls (by show va_P _ _ (ps_wc E _) _; rw [← e]; exact hP1) (by show va_D _ (ps_wc E _); rw [← e]; exact hD1) hS1 hl
theorem gw_getP {E : ps_E} {ρ : Type} {X : ps_X ρ} {cc : ByteArray} {own : String} {ret : Option FieldType} {f n nL : Nat} (C : ps_C (ps_Yc E) X cc own ret f n nL) {r : ρ} {pc : Nat} {lv : List (Nat × Value)} {st : List Value} {M : ps_M} (pc' : Nat) {z : Nat} (hd : decode cc pc = .ok (.getfield z, 3)) (hp : pc + 3 = pc') {d : Nat} (hk : ps_kd d = 1) (j : Nat) (hj : j < 7) (hw : Cond.fieldLink own z RX5 (TX5 j).2.1 (TX5 j).2.2.1 ∈ ps_T) (hs : (TX5 j).1 = RX5) {v : Value} (hv : (ps_fP (ps_ad E) M d)[j]? = some v) (k : ps_G (ps_Yc E) X r pc' lv (v :: st) M) : ps_G (ps_Yc E) X r pc lv (.ref (ps_ad E d) :: st) M := by
  subst hp
  intro H locs ls hP hD hS hl
  obtain ⟨hx, hb, hml, hnL, hown, hts, hr, hlk, hK, hb0, hfr, hlo, hce, hsl⟩ := C
  exact va_get (D := E.1) (ci := 5) (C := RX5) (T := TX5) (N := 7) hx hb hts hinX5 hown hK hP d (ps_at_1 E M hk) rfl j hj (hts _ hw) (fun x h => by rw [← hs]; exact h) hv hd (k H locs ls hP hD hS hl)
theorem ps_setP {E : ps_E} {M : ps_M} {d : Nat} (hk : ps_kd d = 1) {j : Nat} (hj : j = 3) (v : Int32) : (ps_wc E M).set d (ps_ad E d, .inr (5, (ps_fP (ps_ad E) M d).set j (.int v))) = ps_wc E (ps_st M d j v) := by
  refine ps_wc_set E (by omega) ?_ (fun i hi => ps_st_ne hi)
  rw [ps_cf_1 hk]
  rcases hj with rfl <;> simp [ps_fP, ps_st]
theorem gw_putP {E : ps_E} {ρ : Type} {X : ps_X ρ} {cc : ByteArray} {own : String} {ret : Option FieldType} {f n nL : Nat} (C : ps_C (ps_Yc E) X cc own ret f n nL) {r : ρ} {pc : Nat} {lv : List (Nat × Value)} {st : List Value} {M : ps_M} (pc' : Nat) {z : Nat} (hd : decode cc pc = .ok (.putfield z, 3)) (hp : pc + 3 = pc') {d : Nat} (hk : ps_kd d = 1) (j : Nat) (hj : j = 3) (hw : Cond.fieldLink own z RX5 (TX5 j).2.1 (TX5 j).2.2.1 ∈ ps_T) (hs : (TX5 j).1 = RX5) {ty : FieldType} (hfin : (TX5 j).2.2.2 = false) (hty : parseFieldDescriptor (TX5 j).2.2.1 = some ty) {v : Int32} (hn9 : narrow ty (.int v) = .int v) (hfit : fits ty (.int v) = true) (k : ps_G (ps_Yc E) X r pc' lv st (ps_st M d j v)) : ps_G (ps_Yc E) X r pc lv (.int v :: .ref (ps_ad E d) :: st) M := by
  subst hp
  intro H locs ls hP hD hS hl
  obtain ⟨hx, hb, hml, hnL, hown, hts, hr, hlk, hK, hb0, hfr, hlo, hce, hsl⟩ := C
  refine va_put (D := E.1) (ci := 5) (C := RX5) (T := TX5) (N := 7) hx hb hts hinX5 tyX5 tyX5_ok nmX5 hown hK hP hD hS d (ps_at_1 E M hk) rfl j (by omega) (hts _ hw) (fun x h => by rw [← hs]; exact h) hfin hty hn9 hfit (by show j < 7; omega) hd (fun H1 locs1 hP1 hD1 hS1 => ?_)
  have e := ps_setP (E := E) (M := M) hk hj v
  exact k H1 locs1 ls (by show va_P _ _ (ps_wc E _) _; rw [← e]; exact hP1) (by show va_D _ (ps_wc E _); rw [← e]; exact hD1) hS1 hl
theorem gw_ld_i15 {E : ps_E} {ρ : Type} {X : ps_X ρ} {cc : ByteArray} {own : String} {ret : Option FieldType} {f n nL : Nat} (C : ps_C (ps_Yc E) X cc own ret f n nL) {r : ρ} {pc : Nat} {lv : List (Nat × Value)} {st : List Value} {M : ps_M} (pc' : Nat) (hd : decode cc pc = .ok (.iaload, 1)) (hp : pc + 1 = pc') {d : Nat} (hk : ps_kd d = 5) {i : Int32} (hi : vp_in i 15) (k : ps_G (ps_Yc E) X r pc' lv (.int (M d i.toNatClampNeg) :: st) M) : ps_G (ps_Yc E) X r pc lv (.int i :: .ref (ps_ad E d) :: st) M := by
  subst hp
  intro H locs ls hP hD hS hl
  obtain ⟨hx, hb, hml, hnL, hown, hts, hr, hlk, hK, hb0, hfr, hlo, hce, hsl⟩ := C
  exact va_iald (D := E.1) hx hb hK hP d 0 (ps_at_5 E M hk) rfl hi hd (k H locs ls hP hD hS hl)
theorem gw_sv_i15 {E : ps_E} {ρ : Type} {X : ps_X ρ} {cc : ByteArray} {own : String} {ret : Option FieldType} {f n nL : Nat} (C : ps_C (ps_Yc E) X cc own ret f n nL) {r : ρ} {pc : Nat} {lv : List (Nat × Value)} {st : List Value} {M : ps_M} (pc' : Nat) (hd : decode cc pc = .ok (.iastore, 1)) (hp : pc + 1 = pc') {d : Nat} (hk : ps_kd d = 5) {i x : Int32} (hi : vp_in i 15) (k : ps_G (ps_Yc E) X r pc' lv st (ps_st M d i.toNatClampNeg x)) : ps_G (ps_Yc E) X r pc lv (.int x :: .int i :: .ref (ps_ad E d) :: st) M := by
  subst hp
  intro H locs ls hP hD hS hl
  obtain ⟨hx, hb, hml, hnL, hown, hts, hr, hlk, hK, hb0, hfr, hlo, hce, hsl⟩ := C
  refine va_iast (D := E.1) hx hb hK hP hD hS d 0 (ps_at_5 E M hk) rfl hi hd (fun H1 locs1 hP1 hD1 hS1 => ?_)
  have e : (ps_wc E M).set d (ps_ad E d, .inl (E.2.2.1 0, 15, .inl (upd (M d) i.toNatClampNeg x))) = ps_wc E (ps_st M d i.toNatClampNeg x) := ps_wc_set E (by omega) (by rw [ps_cf_5 hk, ps_st_self]) (fun j hj => ps_st_ne hj)
  exact k H1 locs1 ls (by show va_P _ _ (ps_wc E _) _; rw [← e]; exact hP1) (by show va_D _ (ps_wc E _); rw [← e]; exact hD1) hS1 hl
theorem gw_ld_i30 {E : ps_E} {ρ : Type} {X : ps_X ρ} {cc : ByteArray} {own : String} {ret : Option FieldType} {f n nL : Nat} (C : ps_C (ps_Yc E) X cc own ret f n nL) {r : ρ} {pc : Nat} {lv : List (Nat × Value)} {st : List Value} {M : ps_M} (pc' : Nat) (hd : decode cc pc = .ok (.iaload, 1)) (hp : pc + 1 = pc') {d : Nat} (hk : ps_kd d = 12) {i : Int32} (hi : vp_in i 30) (k : ps_G (ps_Yc E) X r pc' lv (.int (M d i.toNatClampNeg) :: st) M) : ps_G (ps_Yc E) X r pc lv (.int i :: .ref (ps_ad E d) :: st) M := by
  subst hp
  intro H locs ls hP hD hS hl
  obtain ⟨hx, hb, hml, hnL, hown, hts, hr, hlk, hK, hb0, hfr, hlo, hce, hsl⟩ := C
  exact va_iald (D := E.1) hx hb hK hP d 0 (ps_at_12 E M hk) rfl hi hd (k H locs ls hP hD hS hl)
theorem gw_sv_i30 {E : ps_E} {ρ : Type} {X : ps_X ρ} {cc : ByteArray} {own : String} {ret : Option FieldType} {f n nL : Nat} (C : ps_C (ps_Yc E) X cc own ret f n nL) {r : ρ} {pc : Nat} {lv : List (Nat × Value)} {st : List Value} {M : ps_M} (pc' : Nat) (hd : decode cc pc = .ok (.iastore, 1)) (hp : pc + 1 = pc') {d : Nat} (hk : ps_kd d = 12) {i x : Int32} (hi : vp_in i 30) (k : ps_G (ps_Yc E) X r pc' lv st (ps_st M d i.toNatClampNeg x)) : ps_G (ps_Yc E) X r pc lv (.int x :: .int i :: .ref (ps_ad E d) :: st) M := by
  subst hp
  intro H locs ls hP hD hS hl
  obtain ⟨hx, hb, hml, hnL, hown, hts, hr, hlk, hK, hb0, hfr, hlo, hce, hsl⟩ := C
  refine va_iast (D := E.1) hx hb hK hP hD hS d 0 (ps_at_12 E M hk) rfl hi hd (fun H1 locs1 hP1 hD1 hS1 => ?_)
  have e : (ps_wc E M).set d (ps_ad E d, .inl (E.2.2.1 0, 30, .inl (upd (M d) i.toNatClampNeg x))) = ps_wc E (ps_st M d i.toNatClampNeg x) := ps_wc_set E (by omega) (by rw [ps_cf_12 hk, ps_st_self]) (fun j hj => ps_st_ne hj)
  exact k H1 locs1 ls (by show va_P _ _ (ps_wc E _) _; rw [← e]; exact hP1) (by show va_D _ (ps_wc E _); rw [← e]; exact hD1) hS1 hl
theorem gw_ld_c60 {E : ps_E} {ρ : Type} {X : ps_X ρ} {cc : ByteArray} {own : String} {ret : Option FieldType} {f n nL : Nat} (C : ps_C (ps_Yc E) X cc own ret f n nL) {r : ρ} {pc : Nat} {lv : List (Nat × Value)} {st : List Value} {M : ps_M} (pc' : Nat) (hd : decode cc pc = .ok (.caload, 1)) (hp : pc + 1 = pc') {d : Nat} (hk : ps_kd d = 11) {i : Int32} (hi : vp_in i 60) (k : ps_G (ps_Yc E) X r pc' lv (.int (M d i.toNatClampNeg) :: st) M) : ps_G (ps_Yc E) X r pc lv (.int i :: .ref (ps_ad E d) :: st) M := by
  subst hp
  intro H locs ls hP hD hS hl
  obtain ⟨hx, hb, hml, hnL, hown, hts, hr, hlk, hK, hb0, hfr, hlo, hce, hsl⟩ := C
  exact va_cald (D := E.1) hx hb hK hP d 1 (ps_at_11 E M hk) rfl hi hd (k H locs ls hP hD hS hl)
theorem gw_sv_c60 {E : ps_E} {ρ : Type} {X : ps_X ρ} {cc : ByteArray} {own : String} {ret : Option FieldType} {f n nL : Nat} (C : ps_C (ps_Yc E) X cc own ret f n nL) {r : ρ} {pc : Nat} {lv : List (Nat × Value)} {st : List Value} {M : ps_M} (pc' : Nat) (hd : decode cc pc = .ok (.castore, 1)) (hp : pc + 1 = pc') {d : Nat} (hk : ps_kd d = 11) {i x : Int32} (hi : vp_in i 60) (k : ps_G (ps_Yc E) X r pc' lv st (ps_st M d i.toNatClampNeg (vp_nar .char x))) : ps_G (ps_Yc E) X r pc lv (.int x :: .int i :: .ref (ps_ad E d) :: st) M := by
  subst hp
  intro H locs ls hP hD hS hl
  obtain ⟨hx, hb, hml, hnL, hown, hts, hr, hlk, hK, hb0, hfr, hlo, hce, hsl⟩ := C
  refine va_cast (D := E.1) hx hb hK hP hD hS d 1 (ps_at_11 E M hk) rfl hi hd (fun H1 locs1 hP1 hD1 hS1 => ?_)
  have e : (ps_wc E M).set d (ps_ad E d, .inl (E.2.2.1 1, 60, .inl (upd (M d) i.toNatClampNeg (vp_nar .char x)))) = ps_wc E (ps_st M d i.toNatClampNeg (vp_nar .char x)) := ps_wc_set E (by omega) (by rw [ps_cf_11 hk, ps_st_self]) (fun j hj => ps_st_ne hj)
  exact k H1 locs1 ls (by show va_P _ _ (ps_wc E _) _; rw [← e]; exact hP1) (by show va_D _ (ps_wc E _); rw [← e]; exact hD1) hS1 hl
theorem gw_alS {E : ps_E} {ρ : Type} {X : ps_X ρ} {cc : ByteArray} {own : String} {ret : Option FieldType} {f n nL : Nat} (C : ps_C (ps_Yc E) X cc own ret f n nL) {r : ρ} {pc : Nat} {lv : List (Nat × Value)} {st : List Value} {M : ps_M} (pc' : Nat) (hd : decode cc pc = .ok (.aaload, 1)) (hp : pc + 1 = pc') {d : Nat} (hk : ps_kd d = 3) {i : Int32} (hi : vp_in i 6) (k : ps_G (ps_Yc E) X r pc' lv (.ref (ps_ad E (d + 1 + 2 * i.toNatClampNeg)) :: st) M) : ps_G (ps_Yc E) X r pc lv (.int i :: .ref (ps_ad E d) :: st) M := by
  subst hp
  intro H locs ls hP hD hS hl
  obtain ⟨hx, hb, hml, hnL, hown, hts, hr, hlk, hK, hb0, hfr, hlo, hce, hsl⟩ := C
  exact va_aldq (D := E.1) (C := "PaperStations$Station") hx hb hK hP d 2 (ps_at_3 E M hk) rfl hi hd (k H locs ls hP hD hS hl)
theorem gw_alK {E : ps_E} {ρ : Type} {X : ps_X ρ} {cc : ByteArray} {own : String} {ret : Option FieldType} {f n nL : Nat} (C : ps_C (ps_Yc E) X cc own ret f n nL) {r : ρ} {pc : Nat} {lv : List (Nat × Value)} {st : List Value} {M : ps_M} (pc' : Nat) (hd : decode cc pc = .ok (.aaload, 1)) (hp : pc + 1 = pc') {d : Nat} (hk : ps_kd d = 6) {i : Int32} (hi : vp_in i 12) (k : ps_G (ps_Yc E) X r pc' lv (.ref (ps_ad E (d + 1 + i.toNatClampNeg)) :: st) M) : ps_G (ps_Yc E) X r pc lv (.int i :: .ref (ps_ad E d) :: st) M := by
  subst hp
  intro H locs ls hP hD hS hl
  obtain ⟨hx, hb, hml, hnL, hown, hts, hr, hlk, hK, hb0, hfr, hlo, hce, hsl⟩ := C
  exact va_aldq (D := E.1) (C := "PaperStations$Clerk") hx hb hK hP d 3 (ps_at_6 E M hk) rfl hi hd (k H locs ls hP hD hS hl)
theorem gw_alD {E : ps_E} {ρ : Type} {X : ps_X ρ} {cc : ByteArray} {own : String} {ret : Option FieldType} {f n nL : Nat} (C : ps_C (ps_Yc E) X cc own ret f n nL) {r : ρ} {pc : Nat} {lv : List (Nat × Value)} {st : List Value} {M : ps_M} (pc' : Nat) (hd : decode cc pc = .ok (.aaload, 1)) (hp : pc + 1 = pc') {d : Nat} (hk : ps_kd d = 9) {i : Int32} (hi : vp_in i 4) (k : ps_G (ps_Yc E) X r pc' lv (.ref (ps_ad E ((M d i.toNatClampNeg).toNatClampNeg)) :: st) M) : ps_G (ps_Yc E) X r pc lv (.int i :: .ref (ps_ad E d) :: st) M := by
  subst hp
  intro H locs ls hP hD hS hl
  obtain ⟨hx, hb, hml, hnL, hown, hts, hr, hlk, hK, hb0, hfr, hlo, hce, hsl⟩ := C
  exact va_aldq (D := E.1) (C := "PaperStations$Day") hx hb hK hP d 4 (ps_at_9 E M hk) rfl hi hd (k H locs ls hP hD hS hl)
theorem gw_asD {E : ps_E} {ρ : Type} {X : ps_X ρ} {cc : ByteArray} {own : String} {ret : Option FieldType} {f n nL : Nat} (C : ps_C (ps_Yc E) X cc own ret f n nL) {r : ρ} {pc : Nat} {lv : List (Nat × Value)} {st : List Value} {M : ps_M} (pc' : Nat) (hd : decode cc pc = .ok (.aastore, 1)) (hp : pc + 1 = pc') {d g : Nat} (hk : ps_kd d = 9) (hg : ps_kd g = 2) {i : Int32} (hi : vp_in i 4) (k : ps_G (ps_Yc E) X r pc' lv st (ps_st M d i.toNatClampNeg (nI g))) : ps_G (ps_Yc E) X r pc lv (.ref (ps_ad E g) :: .int i :: .ref (ps_ad E d) :: st) M := by
  subst hp
  intro H locs ls hP hD hS hl
  obtain ⟨hx, hb, hml, hnL, hown, hts, hr, hlk, hK, hb0, hfr, hlo, hce, hsl⟩ := C
  refine va_astq (D := E.1) hx hb hK hP hD hS d 4 g 2 (ps_at_9 E M hk) rfl (ps_at_2 E M hg) rfl hi hd (fun H1 locs1 hP1 hD1 hS1 => ?_)
  have hgl := ps_kd_lt (k := g) (by omega)
  have e : (ps_wc E M).set d (ps_ad E d, ps_rw (va_up (fun i => some (ps_ad E (M d i).toNatClampNeg)) i.toNatClampNeg (some (ps_ad E g))) (E.2.2.1 4) 4) = ps_wc E (ps_st M d i.toNatClampNeg (nI g)) := by
    refine ps_wc_set E (by omega) ?_ (fun j hj => ps_st_ne hj)
    rw [ps_cf_9 hk]
    congr 1
    funext a
    by_cases ha : a = i.toNatClampNeg
    · simp [ha, va_up, ps_st, nI_clamp (show g < 2 ^ 31 by omega)]
    · simp [ha, va_up, ps_st]
  exact k H1 locs1 ls (by show va_P _ _ (ps_wc E _) _; rw [← e]; exact hP1) (by show va_D _ (ps_wc E _); rw [← e]; exact hD1) hS1 hl
def ps_cln (k : Nat) : Nat := if ps_kd k = 5 then 15 else 30
theorem gw_copy {E : ps_E} {ρ : Type} {X : ps_X ρ} {cc : ByteArray} {own : String} {ret : Option FieldType} {f n nL : Nat} (C : ps_C (ps_Yc E) X cc own ret f n nL) {r : ρ} {pc : Nat} {lv : List (Nat × Value)} {st : List Value} {M : ps_M} (pc' : Nat) {z : Nat} (hd : decode cc pc = .ok (.invokestatic z, 3)) (hp : pc + 3 = pc') (hw : Cond.methodLink own z arraycopyName ∈ ps_T) {a b : Nat} (ha : ps_kd a = 5 ∨ ps_kd a = 12) (hb9 : ps_kd b = 5 ∨ ps_kd b = 12) {sp dp m9 : Int32} (h1 : ¬ sp < 0) (h2 : ¬ dp < 0) (h3 : ¬ m9 < 0) (h4 : sp.toNatClampNeg + m9.toNatClampNeg ≤ ps_cln a) (h5 : dp.toNatClampNeg + m9.toNatClampNeg ≤ ps_cln b) (hf : 1 ≤ f) (hn : (st.map fun v => v.category).sum + (nativeFrameWords "java/lang/System" "arraycopy" 5 + 11) ≤ n) (k : ps_G (ps_Yc E) X r pc' lv st (ps_cpy M a sp.toNatClampNeg b dp.toNatClampNeg m9.toNatClampNeg)) : ps_G (ps_Yc E) X r pc lv (.int m9 :: .int dp :: .ref (ps_ad E b) :: .int sp :: .ref (ps_ad E a) :: st) M := by
  subst hp
  intro H locs ls hP hD hS hl
  obtain ⟨hx, hb, hml, hnL, hown, hts, hr, hlk, hK, hb0, hfr, hlo, hce, hsl⟩ := C
  have hA : ps_kd a ≠ 0 ∧ ps_cf E.2.2.1 (ps_ad E) M a = .inl (E.2.2.1 0, ps_cln a, .inl (M a)) := by
    rcases ha with h | h
    · exact ⟨by omega, by rw [ps_cf_5 h, ps_cln, if_pos h]⟩
    · exact ⟨by omega, by rw [ps_cf_12 h, ps_cln, if_neg (by omega)]⟩
  have hB : ∀ M : ps_M, ps_kd b ≠ 0 ∧ ps_cf E.2.2.1 (ps_ad E) M b = .inl (E.2.2.1 0, ps_cln b, .inl (M b)) := by
    intro M
    rcases hb9 with h | h
    · exact ⟨by omega, by rw [ps_cf_5 h, ps_cln, if_pos h]⟩
    · exact ⟨by omega, by rw [ps_cf_12 h, ps_cln, if_neg (by omega)]⟩
  have hA9 : (ps_wc E M)[a]? = some (ps_ad E a, .inl (E.2.2.1 0, ps_cln a, .inl (M a))) := (ps_wc_at E M hA.1).trans (by rw [hA.2])
  have hB9 : (ps_wc E M)[b]? = some (ps_ad E b, .inl (E.2.2.1 0, ps_cln b, .inl (M b))) := (ps_wc_at E M (hB M).1).trans (by rw [(hB M).2])
  refine va_copyi (D := E.1) hx hb (by rw [hml]; exact hl.1.symm) hown (hts _ hw) (hts _ lkj_cpn) (hts _ lkj_cps) (hts _ lkj_sys) hK hP hD hS a b 0 0 hA9 hB9 rfl rfl rfl h1 h2 h3 h4 h5 (fun _ _ => rfl) (Nat.le_trans hf hfr) (Nat.le_trans hn hlo) hd (fun H1 locs1 hP1 hD1 hS1 => ?_)
  have e : (ps_wc E M).set b (ps_ad E b, .inl (E.2.2.1 0, ps_cln b, .inl (va_cpy (M a) (M b) sp.toNatClampNeg dp.toNatClampNeg m9.toNatClampNeg))) = ps_wc E (ps_cpy M a sp.toNatClampNeg b dp.toNatClampNeg m9.toNatClampNeg) := ps_wc_set E (hB M).1 (by rw [(hB _).2, ps_cpy_self]) (fun j hj => ps_cpy_ne hj)
  exact k H1 locs1 ls (by show va_P _ _ (ps_wc E _) _; rw [← e]; exact hP1) (by show va_D _ (ps_wc E _); rw [← e]; exact hD1) hS1 hl
end
section
/-! ===== THE REFERENCE'S CELLS: 0 the object, 1 now, 2 past, 3 kept, 4 trial, 5 text, 6 numbers ===== -/
def pm_ln (k : Nat) : Nat := if k = 2 then 948 else if k < 5 then 237 else 60
def pm_f (ad : Nat → Nat) (M : ps_M) (k : Nat) : List Value := [.ref (ad (k + 1)), .ref (ad (k + 2)), .int (M k 2), .ref (ad (k + 3)), .int (M k 4), .ref (ad (k + 4)), .ref (ad (k + 5)), .int (M k 7), .ref (ad (k + 6)), .int (M k 9)]
def pm_cf (cid : Nat → ClassId) (ad : Nat → Nat) (M : ps_M) (k : Nat) : va_E := if k = 0 then .inr (6, pm_f ad M k) else .inl (cid 0, pm_ln k, .inl (M k))
def pm_wc (E : ps_E) (M : ps_M) : va_W := E.2.2.2.2 ++ (List.range 7).map (fun k => (ps_ad E k, pm_cf E.2.2.1 (ps_ad E) M k))
def pm_Y (E : ps_E) : ps_Y ps_M := (E.1, E.2.1, E.2.2.1, pm_wc E)
theorem pm_cf_congr {cid : Nat → ClassId} {ad : Nat → Nat} {M M' : ps_M} {k : Nat} (h : M' k = M k) : pm_cf cid ad M' k = pm_cf cid ad M k := by
  unfold pm_cf pm_f
  rw [h]
theorem pm_wc_at (E : ps_E) (M : ps_M) {k : Nat} (h : k < 7) : (pm_wc E M)[E.2.2.2.2.length + k]? = some (ps_ad E k, pm_cf E.2.2.1 (ps_ad E) M k) := by
  unfold pm_wc
  rw [List.getElem?_append_right (by omega), Nat.add_sub_cancel_left]
  simp [h]
theorem pm_wc_set (E : ps_E) {M M' : ps_M} {k : Nat} {e : va_E} (h : k < 7) (he : pm_cf E.2.2.1 (ps_ad E) M' k = e) (ho : ∀ j, j ≠ k → M' j = M j) : (pm_wc E M).set (E.2.2.2.2.length + k) (ps_ad E k, e) = pm_wc E M' := by
  unfold pm_wc
  rw [List.set_append_right _ _ (by omega), Nat.add_sub_cancel_left]
  congr 1
  apply List.ext_getElem?
  intro j
  by_cases hj : j = k
  · subst hj
    rw [List.getElem?_set_self (by simpa using h)]
    simp [h, he]
  · rw [List.getElem?_set_ne (Ne.symm hj)]
    simp only [List.getElem?_map]
    cases hr : (List.range 7)[j]? with
    | none => rfl
    | some i =>
      have hi : i = j := by
        rw [List.getElem?_range] at hr
        · exact (Option.some.inj hr).symm
        · have := (List.getElem?_eq_some_iff.mp hr).1
          simpa using this
      subst hi
      show some (ps_ad E i, pm_cf _ _ M i) = some (ps_ad E i, pm_cf _ _ M' i)
      rw [pm_cf_congr (ho i hj)]
theorem pm_at (E : ps_E) (M : ps_M) {k : Nat} (h : 1 ≤ k ∧ k < 7) : (pm_wc E M)[E.2.2.2.2.length + k]? = some (ps_ad E k, .inl (E.2.2.1 0, pm_ln k, .inl (M k))) := (pm_wc_at E M h.2).trans (by rw [pm_cf, if_neg (by omega)])
theorem pm_recv {E : ps_E} {M : ps_M} : ps_rc (pm_Y E) M (ps_ad E 0) RX6 := ⟨_, 6, (RX6, TX6, 10), _, rfl, rfl, (pm_wc_at E M (k := 0) (by omega))⟩
theorem gm_get {E : ps_E} {ρ : Type} {X : ps_X ρ} {cc : ByteArray} {own : String} {ret : Option FieldType} {f n nL : Nat} (C : ps_C (pm_Y E) X cc own ret f n nL) {r : ρ} {pc : Nat} {lv : List (Nat × Value)} {st : List Value} {M : ps_M} (pc' : Nat) {z : Nat} (hd : decode cc pc = .ok (.getfield z, 3)) (hp : pc + 3 = pc') (j : Nat) (hj : j < 10) (hw : Cond.fieldLink own z RX6 (TX6 j).2.1 (TX6 j).2.2.1 ∈ ps_T) (hs : (TX6 j).1 = RX6) {v : Value} (hv : (pm_f (ps_ad E) M 0)[j]? = some v) (k : ps_G (pm_Y E) X r pc' lv (v :: st) M) : ps_G (pm_Y E) X r pc lv (.ref (ps_ad E 0) :: st) M := by
  subst hp
  intro H locs ls hP hD hS hl
  obtain ⟨hx, hb, hml, hnL, hown, hts, hr, hlk, hK, hb0, hfr, hlo, hce, hsl⟩ := C
  exact va_get (D := E.1) (ci := 6) (C := RX6) (T := TX6) (N := 10) hx hb hts hinX6 hown hK hP (E.2.2.2.2.length + 0) (pm_wc_at E M (k := 0) (by omega)) rfl j hj (hts _ hw) (fun x h => by rw [← hs]; exact h) hv hd (k H locs ls hP hD hS hl)
theorem pm_set {E : ps_E} {M : ps_M} {j : Nat} (hj : j = 2 ∨ j = 4 ∨ j = 7 ∨ j = 9) (v : Int32) : (pm_wc E M).set (E.2.2.2.2.length + 0) (ps_ad E 0, .inr (6, (pm_f (ps_ad E) M 0).set j (.int v))) = pm_wc E (ps_st M 0 j v) := by
  refine pm_wc_set E (by omega) ?_ (fun i hi => ps_st_ne hi)
  rcases hj with rfl | rfl | rfl | rfl <;> simp [pm_cf, pm_f, ps_st]
theorem gm_put {E : ps_E} {ρ : Type} {X : ps_X ρ} {cc : ByteArray} {own : String} {ret : Option FieldType} {f n nL : Nat} (C : ps_C (pm_Y E) X cc own ret f n nL) {r : ρ} {pc : Nat} {lv : List (Nat × Value)} {st : List Value} {M : ps_M} (pc' : Nat) {z : Nat} (hd : decode cc pc = .ok (.putfield z, 3)) (hp : pc + 3 = pc') (j : Nat) (hj : j = 2 ∨ j = 4 ∨ j = 7 ∨ j = 9) (hw : Cond.fieldLink own z RX6 (TX6 j).2.1 (TX6 j).2.2.1 ∈ ps_T) (hs : (TX6 j).1 = RX6) {ty : FieldType} (hfin : (TX6 j).2.2.2 = false) (hty : parseFieldDescriptor (TX6 j).2.2.1 = some ty) {v : Int32} (hn9 : narrow ty (.int v) = .int v) (hfit : fits ty (.int v) = true) (k : ps_G (pm_Y E) X r pc' lv st (ps_st M 0 j v)) : ps_G (pm_Y E) X r pc lv (.int v :: .ref (ps_ad E 0) :: st) M := by
  subst hp
  intro H locs ls hP hD hS hl
  obtain ⟨hx, hb, hml, hnL, hown, hts, hr, hlk, hK, hb0, hfr, hlo, hce, hsl⟩ := C
  refine va_put (D := E.1) (ci := 6) (C := RX6) (T := TX6) (N := 10) hx hb hts hinX6 tyX6 tyX6_ok nmX6 hown hK hP hD hS (E.2.2.2.2.length + 0) (pm_wc_at E M (k := 0) (by omega)) rfl j (by omega) (hts _ hw) (fun x h => by rw [← hs]; exact h) hfin hty hn9 hfit (by show j < 10; omega) hd (fun H1 locs1 hP1 hD1 hS1 => ?_)
  have e := pm_set (E := E) (M := M) hj v
  exact k H1 locs1 ls (by show va_P _ _ (pm_wc E _) _; rw [← e]; exact hP1) (by show va_D _ (pm_wc E _); rw [← e]; exact hD1) hS1 hl
theorem gm_ld {E : ps_E} {ρ : Type} {X : ps_X ρ} {cc : ByteArray} {own : String} {ret : Option FieldType} {f n nL : Nat} (C : ps_C (pm_Y E) X cc own ret f n nL) {r : ρ} {pc : Nat} {lv : List (Nat × Value)} {st : List Value} {M : ps_M} (pc' : Nat) (hd : decode cc pc = .ok (.iaload, 1)) (hp : pc + 1 = pc') {d : Nat} (hk : 1 ≤ d ∧ d < 7) {i : Int32} (hi : vp_in i (pm_ln d)) (k : ps_G (pm_Y E) X r pc' lv (.int (M d i.toNatClampNeg) :: st) M) : ps_G (pm_Y E) X r pc lv (.int i :: .ref (ps_ad E d) :: st) M := by
  subst hp
  intro H locs ls hP hD hS hl
  obtain ⟨hx, hb, hml, hnL, hown, hts, hr, hlk, hK, hb0, hfr, hlo, hce, hsl⟩ := C
  exact va_iald (D := E.1) hx hb hK hP (E.2.2.2.2.length + d) 0 (pm_at E M hk) rfl hi hd (k H locs ls hP hD hS hl)
theorem gm_sv {E : ps_E} {ρ : Type} {X : ps_X ρ} {cc : ByteArray} {own : String} {ret : Option FieldType} {f n nL : Nat} (C : ps_C (pm_Y E) X cc own ret f n nL) {r : ρ} {pc : Nat} {lv : List (Nat × Value)} {st : List Value} {M : ps_M} (pc' : Nat) (hd : decode cc pc = .ok (.iastore, 1)) (hp : pc + 1 = pc') {d : Nat} (hk : 1 ≤ d ∧ d < 7) {i x : Int32} (hi : vp_in i (pm_ln d)) (k : ps_G (pm_Y E) X r pc' lv st (ps_st M d i.toNatClampNeg x)) : ps_G (pm_Y E) X r pc lv (.int x :: .int i :: .ref (ps_ad E d) :: st) M := by
  subst hp
  intro H locs ls hP hD hS hl
  obtain ⟨hx, hb, hml, hnL, hown, hts, hr, hlk, hK, hb0, hfr, hlo, hce, hsl⟩ := C
  refine va_iast (D := E.1) hx hb hK hP hD hS (E.2.2.2.2.length + d) 0 (pm_at E M hk) rfl hi hd (fun H1 locs1 hP1 hD1 hS1 => ?_)
  have e : (pm_wc E M).set (E.2.2.2.2.length + d) (ps_ad E d, .inl (E.2.2.1 0, pm_ln d, .inl (upd (M d) i.toNatClampNeg x))) = pm_wc E (ps_st M d i.toNatClampNeg x) := pm_wc_set E hk.2 (by rw [pm_cf, if_neg (by omega), ps_st_self]) (fun j hj => ps_st_ne hj)
  exact k H1 locs1 ls (by show va_P _ _ (pm_wc E _) _; rw [← e]; exact hP1) (by show va_D _ (pm_wc E _); rw [← e]; exact hD1) hS1 hl
end
section
theorem kd_P : ps_kd 0 = 1 := by decide
theorem kd_1 : ps_kd 1 = 2 := by decide
theorem kd_28 : ps_kd 28 = 2 := by decide
theorem kd_55 : ps_kd 55 = 2 := by decide
theorem kd_190 : ps_kd 190 = 4 := by decide
theorem kd_H : ps_kd 192 = 8 := by decide
theorem kd_193 : ps_kd 193 = 9 := by decide
theorem kd_T : ps_kd 194 = 10 := by decide
theorem kd_195 : ps_kd 195 = 11 := by decide
theorem kd_196 : ps_kd 196 = 12 := by decide
theorem ps_cln_I15 {k : Nat} (h : ps_kd k = 5) : ps_cln k = 15 := by rw [ps_cln, if_pos h]
theorem ps_cln_I30 {k : Nat} (h : ps_kd k = 12) : ps_cln k = 30 := by rw [ps_cln, if_neg (by omega)]
theorem rc_K {E : ps_E} {M : ps_M} {k : Nat} (h : ps_kd k = 7) : ps_rc (ps_Yc E) M (ps_ad E k) RX1 := ps_recv (q := (RX1, TX1, 6)) (by omega) rfl (ps_cf_7 h)
theorem rc_D {E : ps_E} {M : ps_M} {k : Nat} (h : ps_kd k = 2) : ps_rc (ps_Yc E) M (ps_ad E k) RX2 := ps_recv (q := (RX2, TX2, 5)) (by omega) rfl (ps_cf_2 h)
theorem rc_S {E : ps_E} {M : ps_M} {k : Nat} (h : ps_kd k = 4) : ps_rc (ps_Yc E) M (ps_ad E k) RX4 := ps_recv (q := (RX4, TX4, 13)) (by omega) rfl (ps_cf_4 h)
theorem rc_H {E : ps_E} {M : ps_M} : ps_rc (ps_Yc E) M (ps_ad E 192) RX3 := ps_recv (q := (RX3, TX3, 2)) (by rw [kd_H]; omega) rfl (ps_cf_8 kd_H)
theorem rc_T {E : ps_E} {M : ps_M} : ps_rc (ps_Yc E) M (ps_ad E 194) RX0 := ps_recv (q := (RX0, TX0, 3)) (by rw [kd_T]; omega) rfl (ps_cf_10 kd_T)
theorem rc_P {E : ps_E} {M : ps_M} : ps_rc (ps_Yc E) M (ps_ad E 0) RX5 := ps_recv (q := (RX5, TX5, 7)) (by rw [kd_P]; omega) rfl (ps_cf_1 kd_P)
theorem gf_X4_9 {E : ps_E} {ρ : Type} {X : ps_X ρ} {cc : ByteArray} {ret : Option FieldType} {f n nL : Nat} (C : ps_C (ps_Yc E) X cc RX4 ret f n nL) {r : ρ} {pc : Nat} {lv : List (Nat × Value)} {st : List Value} {M : ps_M} (pc' : Nat) (hd : decode cc pc = .ok (.getfield 9, 3)) (hp : pc + 3 = pc') {d : Nat} (hk : ps_kd d = 4) (k : ps_G (ps_Yc E) X r pc' lv (.ref (ps_ad E (d + 1)) :: st) M) : ps_G (ps_Yc E) X r pc lv (.ref (ps_ad E d) :: st) M := gw_getS C pc' hd hp hk 0 (by decide) lk_X4_9 rfl rfl k
theorem gf_X5_73 {E : ps_E} {ρ : Type} {X : ps_X ρ} {cc : ByteArray} {ret : Option FieldType} {f n nL : Nat} (C : ps_C (ps_Yc E) X cc RX5 ret f n nL) {r : ρ} {pc : Nat} {lv : List (Nat × Value)} {st : List Value} {M : ps_M} (pc' : Nat) (hd : decode cc pc = .ok (.getfield 73, 3)) (hp : pc + 3 = pc') {d : Nat} (hk : ps_kd d = 4) (k : ps_G (ps_Yc E) X r pc' lv (.ref (ps_ad E (d + 1)) :: st) M) : ps_G (ps_Yc E) X r pc lv (.ref (ps_ad E d) :: st) M := gw_getS C pc' hd hp hk 0 (by decide) lk_X5_73 rfl rfl k
theorem gf_X2_64 {E : ps_E} {ρ : Type} {X : ps_X ρ} {cc : ByteArray} {ret : Option FieldType} {f n nL : Nat} (C : ps_C (ps_Yc E) X cc RX2 ret f n nL) {r : ρ} {pc : Nat} {lv : List (Nat × Value)} {st : List Value} {M : ps_M} (pc' : Nat) (hd : decode cc pc = .ok (.getfield 64, 3)) (hp : pc + 3 = pc') {d : Nat} (hk : ps_kd d = 4) (k : ps_G (ps_Yc E) X r pc' lv (.ref (ps_ad E (d + 1)) :: st) M) : ps_G (ps_Yc E) X r pc lv (.ref (ps_ad E d) :: st) M := gw_getS C pc' hd hp hk 0 (by decide) lk_X2_64 rfl rfl k
theorem gf_X4_21 {E : ps_E} {ρ : Type} {X : ps_X ρ} {cc : ByteArray} {ret : Option FieldType} {f n nL : Nat} (C : ps_C (ps_Yc E) X cc RX4 ret f n nL) {r : ρ} {pc : Nat} {lv : List (Nat × Value)} {st : List Value} {M : ps_M} (pc' : Nat) (hd : decode cc pc = .ok (.getfield 21, 3)) (hp : pc + 3 = pc') {d : Nat} (hk : ps_kd d = 4) (k : ps_G (ps_Yc E) X r pc' lv (.int (M d 1) :: st) M) : ps_G (ps_Yc E) X r pc lv (.ref (ps_ad E d) :: st) M := gw_getS C pc' hd hp hk 1 (by decide) lk_X4_21 rfl rfl k
theorem pf_X4_21 {E : ps_E} {ρ : Type} {X : ps_X ρ} {cc : ByteArray} {ret : Option FieldType} {f n nL : Nat} (C : ps_C (ps_Yc E) X cc RX4 ret f n nL) {r : ρ} {pc : Nat} {lv : List (Nat × Value)} {st : List Value} {M : ps_M} (pc' : Nat) (hd : decode cc pc = .ok (.putfield 21, 3)) (hp : pc + 3 = pc') {d : Nat} (hk : ps_kd d = 4) {v : Int32} (k : ps_G (ps_Yc E) X r pc' lv st (ps_st M d 1 v)) : ps_G (ps_Yc E) X r pc lv (.int v :: .ref (ps_ad E d) :: st) M := gw_putS C pc' hd hp hk 1 (by decide) lk_X4_21 rfl (ty := .int) rfl (by decide +kernel) rfl rfl k
theorem gf_X2_61 {E : ps_E} {ρ : Type} {X : ps_X ρ} {cc : ByteArray} {ret : Option FieldType} {f n nL : Nat} (C : ps_C (ps_Yc E) X cc RX2 ret f n nL) {r : ρ} {pc : Nat} {lv : List (Nat × Value)} {st : List Value} {M : ps_M} (pc' : Nat) (hd : decode cc pc = .ok (.getfield 61, 3)) (hp : pc + 3 = pc') {d : Nat} (hk : ps_kd d = 4) (k : ps_G (ps_Yc E) X r pc' lv (.int (M d 1) :: st) M) : ps_G (ps_Yc E) X r pc lv (.ref (ps_ad E d) :: st) M := gw_getS C pc' hd hp hk 1 (by decide) lk_X2_61 rfl rfl k
theorem pf_X2_61 {E : ps_E} {ρ : Type} {X : ps_X ρ} {cc : ByteArray} {ret : Option FieldType} {f n nL : Nat} (C : ps_C (ps_Yc E) X cc RX2 ret f n nL) {r : ρ} {pc : Nat} {lv : List (Nat × Value)} {st : List Value} {M : ps_M} (pc' : Nat) (hd : decode cc pc = .ok (.putfield 61, 3)) (hp : pc + 3 = pc') {d : Nat} (hk : ps_kd d = 4) {v : Int32} (k : ps_G (ps_Yc E) X r pc' lv st (ps_st M d 1 v)) : ps_G (ps_Yc E) X r pc lv (.int v :: .ref (ps_ad E d) :: st) M := gw_putS C pc' hd hp hk 1 (by decide) lk_X2_61 rfl (ty := .int) rfl (by decide +kernel) rfl rfl k
theorem gf_X5_135 {E : ps_E} {ρ : Type} {X : ps_X ρ} {cc : ByteArray} {ret : Option FieldType} {f n nL : Nat} (C : ps_C (ps_Yc E) X cc RX5 ret f n nL) {r : ρ} {pc : Nat} {lv : List (Nat × Value)} {st : List Value} {M : ps_M} (pc' : Nat) (hd : decode cc pc = .ok (.getfield 135, 3)) (hp : pc + 3 = pc') {d : Nat} (hk : ps_kd d = 4) (k : ps_G (ps_Yc E) X r pc' lv (.int (M d 1) :: st) M) : ps_G (ps_Yc E) X r pc lv (.ref (ps_ad E d) :: st) M := gw_getS C pc' hd hp hk 1 (by decide) lk_X5_135 rfl rfl k
theorem gf_X4_25 {E : ps_E} {ρ : Type} {X : ps_X ρ} {cc : ByteArray} {ret : Option FieldType} {f n nL : Nat} (C : ps_C (ps_Yc E) X cc RX4 ret f n nL) {r : ρ} {pc : Nat} {lv : List (Nat × Value)} {st : List Value} {M : ps_M} (pc' : Nat) (hd : decode cc pc = .ok (.getfield 25, 3)) (hp : pc + 3 = pc') {d : Nat} (hk : ps_kd d = 4) (k : ps_G (ps_Yc E) X r pc' lv (.int (M d 2) :: st) M) : ps_G (ps_Yc E) X r pc lv (.ref (ps_ad E d) :: st) M := gw_getS C pc' hd hp hk 2 (by decide) lk_X4_25 rfl rfl k
theorem pf_X4_25 {E : ps_E} {ρ : Type} {X : ps_X ρ} {cc : ByteArray} {ret : Option FieldType} {f n nL : Nat} (C : ps_C (ps_Yc E) X cc RX4 ret f n nL) {r : ρ} {pc : Nat} {lv : List (Nat × Value)} {st : List Value} {M : ps_M} (pc' : Nat) (hd : decode cc pc = .ok (.putfield 25, 3)) (hp : pc + 3 = pc') {d : Nat} (hk : ps_kd d = 4) {v : Int32} (k : ps_G (ps_Yc E) X r pc' lv st (ps_st M d 2 v)) : ps_G (ps_Yc E) X r pc lv (.int v :: .ref (ps_ad E d) :: st) M := gw_putS C pc' hd hp hk 2 (by decide) lk_X4_25 rfl (ty := .int) rfl (by decide +kernel) rfl rfl k
theorem gf_X5_183 {E : ps_E} {ρ : Type} {X : ps_X ρ} {cc : ByteArray} {ret : Option FieldType} {f n nL : Nat} (C : ps_C (ps_Yc E) X cc RX5 ret f n nL) {r : ρ} {pc : Nat} {lv : List (Nat × Value)} {st : List Value} {M : ps_M} (pc' : Nat) (hd : decode cc pc = .ok (.getfield 183, 3)) (hp : pc + 3 = pc') {d : Nat} (hk : ps_kd d = 4) (k : ps_G (ps_Yc E) X r pc' lv (.int (M d 2) :: st) M) : ps_G (ps_Yc E) X r pc lv (.ref (ps_ad E d) :: st) M := gw_getS C pc' hd hp hk 2 (by decide) lk_X5_183 rfl rfl k
theorem gf_X4_28 {E : ps_E} {ρ : Type} {X : ps_X ρ} {cc : ByteArray} {ret : Option FieldType} {f n nL : Nat} (C : ps_C (ps_Yc E) X cc RX4 ret f n nL) {r : ρ} {pc : Nat} {lv : List (Nat × Value)} {st : List Value} {M : ps_M} (pc' : Nat) (hd : decode cc pc = .ok (.getfield 28, 3)) (hp : pc + 3 = pc') {d : Nat} (hk : ps_kd d = 4) (k : ps_G (ps_Yc E) X r pc' lv (.int (M d 3) :: st) M) : ps_G (ps_Yc E) X r pc lv (.ref (ps_ad E d) :: st) M := gw_getS C pc' hd hp hk 3 (by decide) lk_X4_28 rfl rfl k
theorem pf_X4_28 {E : ps_E} {ρ : Type} {X : ps_X ρ} {cc : ByteArray} {ret : Option FieldType} {f n nL : Nat} (C : ps_C (ps_Yc E) X cc RX4 ret f n nL) {r : ρ} {pc : Nat} {lv : List (Nat × Value)} {st : List Value} {M : ps_M} (pc' : Nat) (hd : decode cc pc = .ok (.putfield 28, 3)) (hp : pc + 3 = pc') {d : Nat} (hk : ps_kd d = 4) {v : Int32} (k : ps_G (ps_Yc E) X r pc' lv st (ps_st M d 3 v)) : ps_G (ps_Yc E) X r pc lv (.int v :: .ref (ps_ad E d) :: st) M := gw_putS C pc' hd hp hk 3 (by decide) lk_X4_28 rfl (ty := .int) rfl (by decide +kernel) rfl rfl k
theorem gf_X5_186 {E : ps_E} {ρ : Type} {X : ps_X ρ} {cc : ByteArray} {ret : Option FieldType} {f n nL : Nat} (C : ps_C (ps_Yc E) X cc RX5 ret f n nL) {r : ρ} {pc : Nat} {lv : List (Nat × Value)} {st : List Value} {M : ps_M} (pc' : Nat) (hd : decode cc pc = .ok (.getfield 186, 3)) (hp : pc + 3 = pc') {d : Nat} (hk : ps_kd d = 4) (k : ps_G (ps_Yc E) X r pc' lv (.int (M d 3) :: st) M) : ps_G (ps_Yc E) X r pc lv (.ref (ps_ad E d) :: st) M := gw_getS C pc' hd hp hk 3 (by decide) lk_X5_186 rfl rfl k
theorem gf_X4_31 {E : ps_E} {ρ : Type} {X : ps_X ρ} {cc : ByteArray} {ret : Option FieldType} {f n nL : Nat} (C : ps_C (ps_Yc E) X cc RX4 ret f n nL) {r : ρ} {pc : Nat} {lv : List (Nat × Value)} {st : List Value} {M : ps_M} (pc' : Nat) (hd : decode cc pc = .ok (.getfield 31, 3)) (hp : pc + 3 = pc') {d : Nat} (hk : ps_kd d = 4) (k : ps_G (ps_Yc E) X r pc' lv (.int (M d 4) :: st) M) : ps_G (ps_Yc E) X r pc lv (.ref (ps_ad E d) :: st) M := gw_getS C pc' hd hp hk 4 (by decide) lk_X4_31 rfl rfl k
theorem pf_X4_31 {E : ps_E} {ρ : Type} {X : ps_X ρ} {cc : ByteArray} {ret : Option FieldType} {f n nL : Nat} (C : ps_C (ps_Yc E) X cc RX4 ret f n nL) {r : ρ} {pc : Nat} {lv : List (Nat × Value)} {st : List Value} {M : ps_M} (pc' : Nat) (hd : decode cc pc = .ok (.putfield 31, 3)) (hp : pc + 3 = pc') {d : Nat} (hk : ps_kd d = 4) {v : Int32} (k : ps_G (ps_Yc E) X r pc' lv st (ps_st M d 4 v)) : ps_G (ps_Yc E) X r pc lv (.int v :: .ref (ps_ad E d) :: st) M := gw_putS C pc' hd hp hk 4 (by decide) lk_X4_31 rfl (ty := .int) rfl (by decide +kernel) rfl rfl k
theorem gf_X5_189 {E : ps_E} {ρ : Type} {X : ps_X ρ} {cc : ByteArray} {ret : Option FieldType} {f n nL : Nat} (C : ps_C (ps_Yc E) X cc RX5 ret f n nL) {r : ρ} {pc : Nat} {lv : List (Nat × Value)} {st : List Value} {M : ps_M} (pc' : Nat) (hd : decode cc pc = .ok (.getfield 189, 3)) (hp : pc + 3 = pc') {d : Nat} (hk : ps_kd d = 4) (k : ps_G (ps_Yc E) X r pc' lv (.int (M d 4) :: st) M) : ps_G (ps_Yc E) X r pc lv (.ref (ps_ad E d) :: st) M := gw_getS C pc' hd hp hk 4 (by decide) lk_X5_189 rfl rfl k
theorem gf_X4_34 {E : ps_E} {ρ : Type} {X : ps_X ρ} {cc : ByteArray} {ret : Option FieldType} {f n nL : Nat} (C : ps_C (ps_Yc E) X cc RX4 ret f n nL) {r : ρ} {pc : Nat} {lv : List (Nat × Value)} {st : List Value} {M : ps_M} (pc' : Nat) (hd : decode cc pc = .ok (.getfield 34, 3)) (hp : pc + 3 = pc') {d : Nat} (hk : ps_kd d = 4) (k : ps_G (ps_Yc E) X r pc' lv (.int (M d 5) :: st) M) : ps_G (ps_Yc E) X r pc lv (.ref (ps_ad E d) :: st) M := gw_getS C pc' hd hp hk 5 (by decide) lk_X4_34 rfl rfl k
theorem pf_X4_34 {E : ps_E} {ρ : Type} {X : ps_X ρ} {cc : ByteArray} {ret : Option FieldType} {f n nL : Nat} (C : ps_C (ps_Yc E) X cc RX4 ret f n nL) {r : ρ} {pc : Nat} {lv : List (Nat × Value)} {st : List Value} {M : ps_M} (pc' : Nat) (hd : decode cc pc = .ok (.putfield 34, 3)) (hp : pc + 3 = pc') {d : Nat} (hk : ps_kd d = 4) {v : Int32} (k : ps_G (ps_Yc E) X r pc' lv st (ps_st M d 5 v)) : ps_G (ps_Yc E) X r pc lv (.int v :: .ref (ps_ad E d) :: st) M := gw_putS C pc' hd hp hk 5 (by decide) lk_X4_34 rfl (ty := .int) rfl (by decide +kernel) rfl rfl k
theorem gf_X5_116 {E : ps_E} {ρ : Type} {X : ps_X ρ} {cc : ByteArray} {ret : Option FieldType} {f n nL : Nat} (C : ps_C (ps_Yc E) X cc RX5 ret f n nL) {r : ρ} {pc : Nat} {lv : List (Nat × Value)} {st : List Value} {M : ps_M} (pc' : Nat) (hd : decode cc pc = .ok (.getfield 116, 3)) (hp : pc + 3 = pc') {d : Nat} (hk : ps_kd d = 4) (k : ps_G (ps_Yc E) X r pc' lv (.int (M d 5) :: st) M) : ps_G (ps_Yc E) X r pc lv (.ref (ps_ad E d) :: st) M := gw_getS C pc' hd hp hk 5 (by decide) lk_X5_116 rfl rfl k
theorem pf_X5_116 {E : ps_E} {ρ : Type} {X : ps_X ρ} {cc : ByteArray} {ret : Option FieldType} {f n nL : Nat} (C : ps_C (ps_Yc E) X cc RX5 ret f n nL) {r : ρ} {pc : Nat} {lv : List (Nat × Value)} {st : List Value} {M : ps_M} (pc' : Nat) (hd : decode cc pc = .ok (.putfield 116, 3)) (hp : pc + 3 = pc') {d : Nat} (hk : ps_kd d = 4) {v : Int32} (k : ps_G (ps_Yc E) X r pc' lv st (ps_st M d 5 v)) : ps_G (ps_Yc E) X r pc lv (.int v :: .ref (ps_ad E d) :: st) M := gw_putS C pc' hd hp hk 5 (by decide) lk_X5_116 rfl (ty := .int) rfl (by decide +kernel) rfl rfl k
theorem gf_X4_37 {E : ps_E} {ρ : Type} {X : ps_X ρ} {cc : ByteArray} {ret : Option FieldType} {f n nL : Nat} (C : ps_C (ps_Yc E) X cc RX4 ret f n nL) {r : ρ} {pc : Nat} {lv : List (Nat × Value)} {st : List Value} {M : ps_M} (pc' : Nat) (hd : decode cc pc = .ok (.getfield 37, 3)) (hp : pc + 3 = pc') {d : Nat} (hk : ps_kd d = 4) (k : ps_G (ps_Yc E) X r pc' lv (.int (M d 6) :: st) M) : ps_G (ps_Yc E) X r pc lv (.ref (ps_ad E d) :: st) M := gw_getS C pc' hd hp hk 6 (by decide) lk_X4_37 rfl rfl k
theorem pf_X4_37 {E : ps_E} {ρ : Type} {X : ps_X ρ} {cc : ByteArray} {ret : Option FieldType} {f n nL : Nat} (C : ps_C (ps_Yc E) X cc RX4 ret f n nL) {r : ρ} {pc : Nat} {lv : List (Nat × Value)} {st : List Value} {M : ps_M} (pc' : Nat) (hd : decode cc pc = .ok (.putfield 37, 3)) (hp : pc + 3 = pc') {d : Nat} (hk : ps_kd d = 4) {v : Int32} (k : ps_G (ps_Yc E) X r pc' lv st (ps_st M d 6 v)) : ps_G (ps_Yc E) X r pc lv (.int v :: .ref (ps_ad E d) :: st) M := gw_putS C pc' hd hp hk 6 (by decide) lk_X4_37 rfl (ty := .int) rfl (by decide +kernel) rfl rfl k
theorem gf_X5_125 {E : ps_E} {ρ : Type} {X : ps_X ρ} {cc : ByteArray} {ret : Option FieldType} {f n nL : Nat} (C : ps_C (ps_Yc E) X cc RX5 ret f n nL) {r : ρ} {pc : Nat} {lv : List (Nat × Value)} {st : List Value} {M : ps_M} (pc' : Nat) (hd : decode cc pc = .ok (.getfield 125, 3)) (hp : pc + 3 = pc') {d : Nat} (hk : ps_kd d = 4) (k : ps_G (ps_Yc E) X r pc' lv (.int (M d 6) :: st) M) : ps_G (ps_Yc E) X r pc lv (.ref (ps_ad E d) :: st) M := gw_getS C pc' hd hp hk 6 (by decide) lk_X5_125 rfl rfl k
theorem pf_X5_125 {E : ps_E} {ρ : Type} {X : ps_X ρ} {cc : ByteArray} {ret : Option FieldType} {f n nL : Nat} (C : ps_C (ps_Yc E) X cc RX5 ret f n nL) {r : ρ} {pc : Nat} {lv : List (Nat × Value)} {st : List Value} {M : ps_M} (pc' : Nat) (hd : decode cc pc = .ok (.putfield 125, 3)) (hp : pc + 3 = pc') {d : Nat} (hk : ps_kd d = 4) {v : Int32} (k : ps_G (ps_Yc E) X r pc' lv st (ps_st M d 6 v)) : ps_G (ps_Yc E) X r pc lv (.int v :: .ref (ps_ad E d) :: st) M := gw_putS C pc' hd hp hk 6 (by decide) lk_X5_125 rfl (ty := .int) rfl (by decide +kernel) rfl rfl k
theorem gf_X4_40 {E : ps_E} {ρ : Type} {X : ps_X ρ} {cc : ByteArray} {ret : Option FieldType} {f n nL : Nat} (C : ps_C (ps_Yc E) X cc RX4 ret f n nL) {r : ρ} {pc : Nat} {lv : List (Nat × Value)} {st : List Value} {M : ps_M} (pc' : Nat) (hd : decode cc pc = .ok (.getfield 40, 3)) (hp : pc + 3 = pc') {d : Nat} (hk : ps_kd d = 4) (k : ps_G (ps_Yc E) X r pc' lv (.int (M d 7) :: st) M) : ps_G (ps_Yc E) X r pc lv (.ref (ps_ad E d) :: st) M := gw_getS C pc' hd hp hk 7 (by decide) lk_X4_40 rfl rfl k
theorem pf_X4_40 {E : ps_E} {ρ : Type} {X : ps_X ρ} {cc : ByteArray} {ret : Option FieldType} {f n nL : Nat} (C : ps_C (ps_Yc E) X cc RX4 ret f n nL) {r : ρ} {pc : Nat} {lv : List (Nat × Value)} {st : List Value} {M : ps_M} (pc' : Nat) (hd : decode cc pc = .ok (.putfield 40, 3)) (hp : pc + 3 = pc') {d : Nat} (hk : ps_kd d = 4) {v : Int32} (k : ps_G (ps_Yc E) X r pc' lv st (ps_st M d 7 v)) : ps_G (ps_Yc E) X r pc lv (.int v :: .ref (ps_ad E d) :: st) M := gw_putS C pc' hd hp hk 7 (by decide) lk_X4_40 rfl (ty := .int) rfl (by decide +kernel) rfl rfl k
theorem gf_X5_122 {E : ps_E} {ρ : Type} {X : ps_X ρ} {cc : ByteArray} {ret : Option FieldType} {f n nL : Nat} (C : ps_C (ps_Yc E) X cc RX5 ret f n nL) {r : ρ} {pc : Nat} {lv : List (Nat × Value)} {st : List Value} {M : ps_M} (pc' : Nat) (hd : decode cc pc = .ok (.getfield 122, 3)) (hp : pc + 3 = pc') {d : Nat} (hk : ps_kd d = 4) (k : ps_G (ps_Yc E) X r pc' lv (.int (M d 7) :: st) M) : ps_G (ps_Yc E) X r pc lv (.ref (ps_ad E d) :: st) M := gw_getS C pc' hd hp hk 7 (by decide) lk_X5_122 rfl rfl k
theorem pf_X5_122 {E : ps_E} {ρ : Type} {X : ps_X ρ} {cc : ByteArray} {ret : Option FieldType} {f n nL : Nat} (C : ps_C (ps_Yc E) X cc RX5 ret f n nL) {r : ρ} {pc : Nat} {lv : List (Nat × Value)} {st : List Value} {M : ps_M} (pc' : Nat) (hd : decode cc pc = .ok (.putfield 122, 3)) (hp : pc + 3 = pc') {d : Nat} (hk : ps_kd d = 4) {v : Int32} (k : ps_G (ps_Yc E) X r pc' lv st (ps_st M d 7 v)) : ps_G (ps_Yc E) X r pc lv (.int v :: .ref (ps_ad E d) :: st) M := gw_putS C pc' hd hp hk 7 (by decide) lk_X5_122 rfl (ty := .int) rfl (by decide +kernel) rfl rfl k
theorem gf_X4_43 {E : ps_E} {ρ : Type} {X : ps_X ρ} {cc : ByteArray} {ret : Option FieldType} {f n nL : Nat} (C : ps_C (ps_Yc E) X cc RX4 ret f n nL) {r : ρ} {pc : Nat} {lv : List (Nat × Value)} {st : List Value} {M : ps_M} (pc' : Nat) (hd : decode cc pc = .ok (.getfield 43, 3)) (hp : pc + 3 = pc') {d : Nat} (hk : ps_kd d = 4) (k : ps_G (ps_Yc E) X r pc' lv (.int (M d 8) :: st) M) : ps_G (ps_Yc E) X r pc lv (.ref (ps_ad E d) :: st) M := gw_getS C pc' hd hp hk 8 (by decide) lk_X4_43 rfl rfl k
theorem pf_X4_43 {E : ps_E} {ρ : Type} {X : ps_X ρ} {cc : ByteArray} {ret : Option FieldType} {f n nL : Nat} (C : ps_C (ps_Yc E) X cc RX4 ret f n nL) {r : ρ} {pc : Nat} {lv : List (Nat × Value)} {st : List Value} {M : ps_M} (pc' : Nat) (hd : decode cc pc = .ok (.putfield 43, 3)) (hp : pc + 3 = pc') {d : Nat} (hk : ps_kd d = 4) {v : Int32} (k : ps_G (ps_Yc E) X r pc' lv st (ps_st M d 8 v)) : ps_G (ps_Yc E) X r pc lv (.int v :: .ref (ps_ad E d) :: st) M := gw_putS C pc' hd hp hk 8 (by decide) lk_X4_43 rfl (ty := .int) rfl (by decide +kernel) rfl rfl k
theorem gf_X5_128 {E : ps_E} {ρ : Type} {X : ps_X ρ} {cc : ByteArray} {ret : Option FieldType} {f n nL : Nat} (C : ps_C (ps_Yc E) X cc RX5 ret f n nL) {r : ρ} {pc : Nat} {lv : List (Nat × Value)} {st : List Value} {M : ps_M} (pc' : Nat) (hd : decode cc pc = .ok (.getfield 128, 3)) (hp : pc + 3 = pc') {d : Nat} (hk : ps_kd d = 4) (k : ps_G (ps_Yc E) X r pc' lv (.int (M d 8) :: st) M) : ps_G (ps_Yc E) X r pc lv (.ref (ps_ad E d) :: st) M := gw_getS C pc' hd hp hk 8 (by decide) lk_X5_128 rfl rfl k
theorem pf_X5_128 {E : ps_E} {ρ : Type} {X : ps_X ρ} {cc : ByteArray} {ret : Option FieldType} {f n nL : Nat} (C : ps_C (ps_Yc E) X cc RX5 ret f n nL) {r : ρ} {pc : Nat} {lv : List (Nat × Value)} {st : List Value} {M : ps_M} (pc' : Nat) (hd : decode cc pc = .ok (.putfield 128, 3)) (hp : pc + 3 = pc') {d : Nat} (hk : ps_kd d = 4) {v : Int32} (k : ps_G (ps_Yc E) X r pc' lv st (ps_st M d 8 v)) : ps_G (ps_Yc E) X r pc lv (.int v :: .ref (ps_ad E d) :: st) M := gw_putS C pc' hd hp hk 8 (by decide) lk_X5_128 rfl (ty := .int) rfl (by decide +kernel) rfl rfl k
theorem gf_X4_46 {E : ps_E} {ρ : Type} {X : ps_X ρ} {cc : ByteArray} {ret : Option FieldType} {f n nL : Nat} (C : ps_C (ps_Yc E) X cc RX4 ret f n nL) {r : ρ} {pc : Nat} {lv : List (Nat × Value)} {st : List Value} {M : ps_M} (pc' : Nat) (hd : decode cc pc = .ok (.getfield 46, 3)) (hp : pc + 3 = pc') {d : Nat} (hk : ps_kd d = 4) (k : ps_G (ps_Yc E) X r pc' lv (.int (M d 9) :: st) M) : ps_G (ps_Yc E) X r pc lv (.ref (ps_ad E d) :: st) M := gw_getS C pc' hd hp hk 9 (by decide) lk_X4_46 rfl rfl k
theorem pf_X4_46 {E : ps_E} {ρ : Type} {X : ps_X ρ} {cc : ByteArray} {ret : Option FieldType} {f n nL : Nat} (C : ps_C (ps_Yc E) X cc RX4 ret f n nL) {r : ρ} {pc : Nat} {lv : List (Nat × Value)} {st : List Value} {M : ps_M} (pc' : Nat) (hd : decode cc pc = .ok (.putfield 46, 3)) (hp : pc + 3 = pc') {d : Nat} (hk : ps_kd d = 4) {v : Int32} (k : ps_G (ps_Yc E) X r pc' lv st (ps_st M d 9 v)) : ps_G (ps_Yc E) X r pc lv (.int v :: .ref (ps_ad E d) :: st) M := gw_putS C pc' hd hp hk 9 (by decide) lk_X4_46 rfl (ty := .int) rfl (by decide +kernel) rfl rfl k
theorem gf_X5_131 {E : ps_E} {ρ : Type} {X : ps_X ρ} {cc : ByteArray} {ret : Option FieldType} {f n nL : Nat} (C : ps_C (ps_Yc E) X cc RX5 ret f n nL) {r : ρ} {pc : Nat} {lv : List (Nat × Value)} {st : List Value} {M : ps_M} (pc' : Nat) (hd : decode cc pc = .ok (.getfield 131, 3)) (hp : pc + 3 = pc') {d : Nat} (hk : ps_kd d = 4) (k : ps_G (ps_Yc E) X r pc' lv (.int (M d 9) :: st) M) : ps_G (ps_Yc E) X r pc lv (.ref (ps_ad E d) :: st) M := gw_getS C pc' hd hp hk 9 (by decide) lk_X5_131 rfl rfl k
theorem pf_X5_131 {E : ps_E} {ρ : Type} {X : ps_X ρ} {cc : ByteArray} {ret : Option FieldType} {f n nL : Nat} (C : ps_C (ps_Yc E) X cc RX5 ret f n nL) {r : ρ} {pc : Nat} {lv : List (Nat × Value)} {st : List Value} {M : ps_M} (pc' : Nat) (hd : decode cc pc = .ok (.putfield 131, 3)) (hp : pc + 3 = pc') {d : Nat} (hk : ps_kd d = 4) {v : Int32} (k : ps_G (ps_Yc E) X r pc' lv st (ps_st M d 9 v)) : ps_G (ps_Yc E) X r pc lv (.int v :: .ref (ps_ad E d) :: st) M := gw_putS C pc' hd hp hk 9 (by decide) lk_X5_131 rfl (ty := .int) rfl (by decide +kernel) rfl rfl k
theorem gf_X4_49 {E : ps_E} {ρ : Type} {X : ps_X ρ} {cc : ByteArray} {ret : Option FieldType} {f n nL : Nat} (C : ps_C (ps_Yc E) X cc RX4 ret f n nL) {r : ρ} {pc : Nat} {lv : List (Nat × Value)} {st : List Value} {M : ps_M} (pc' : Nat) (hd : decode cc pc = .ok (.getfield 49, 3)) (hp : pc + 3 = pc') {d : Nat} (hk : ps_kd d = 4) (k : ps_G (ps_Yc E) X r pc' lv (.int (M d 10) :: st) M) : ps_G (ps_Yc E) X r pc lv (.ref (ps_ad E d) :: st) M := gw_getS C pc' hd hp hk 10 (by decide) lk_X4_49 rfl rfl k
theorem pf_X4_49 {E : ps_E} {ρ : Type} {X : ps_X ρ} {cc : ByteArray} {ret : Option FieldType} {f n nL : Nat} (C : ps_C (ps_Yc E) X cc RX4 ret f n nL) {r : ρ} {pc : Nat} {lv : List (Nat × Value)} {st : List Value} {M : ps_M} (pc' : Nat) (hd : decode cc pc = .ok (.putfield 49, 3)) (hp : pc + 3 = pc') {d : Nat} (hk : ps_kd d = 4) {v : Int32} (k : ps_G (ps_Yc E) X r pc' lv st (ps_st M d 10 v)) : ps_G (ps_Yc E) X r pc lv (.int v :: .ref (ps_ad E d) :: st) M := gw_putS C pc' hd hp hk 10 (by decide) lk_X4_49 rfl (ty := .int) rfl (by decide +kernel) rfl rfl k
theorem gf_X5_119 {E : ps_E} {ρ : Type} {X : ps_X ρ} {cc : ByteArray} {ret : Option FieldType} {f n nL : Nat} (C : ps_C (ps_Yc E) X cc RX5 ret f n nL) {r : ρ} {pc : Nat} {lv : List (Nat × Value)} {st : List Value} {M : ps_M} (pc' : Nat) (hd : decode cc pc = .ok (.getfield 119, 3)) (hp : pc + 3 = pc') {d : Nat} (hk : ps_kd d = 4) (k : ps_G (ps_Yc E) X r pc' lv (.int (M d 10) :: st) M) : ps_G (ps_Yc E) X r pc lv (.ref (ps_ad E d) :: st) M := gw_getS C pc' hd hp hk 10 (by decide) lk_X5_119 rfl rfl k
theorem pf_X5_119 {E : ps_E} {ρ : Type} {X : ps_X ρ} {cc : ByteArray} {ret : Option FieldType} {f n nL : Nat} (C : ps_C (ps_Yc E) X cc RX5 ret f n nL) {r : ρ} {pc : Nat} {lv : List (Nat × Value)} {st : List Value} {M : ps_M} (pc' : Nat) (hd : decode cc pc = .ok (.putfield 119, 3)) (hp : pc + 3 = pc') {d : Nat} (hk : ps_kd d = 4) {v : Int32} (k : ps_G (ps_Yc E) X r pc' lv st (ps_st M d 10 v)) : ps_G (ps_Yc E) X r pc lv (.int v :: .ref (ps_ad E d) :: st) M := gw_putS C pc' hd hp hk 10 (by decide) lk_X5_119 rfl (ty := .int) rfl (by decide +kernel) rfl rfl k
theorem gf_X4_52 {E : ps_E} {ρ : Type} {X : ps_X ρ} {cc : ByteArray} {ret : Option FieldType} {f n nL : Nat} (C : ps_C (ps_Yc E) X cc RX4 ret f n nL) {r : ρ} {pc : Nat} {lv : List (Nat × Value)} {st : List Value} {M : ps_M} (pc' : Nat) (hd : decode cc pc = .ok (.getfield 52, 3)) (hp : pc + 3 = pc') {d : Nat} (hk : ps_kd d = 4) (k : ps_G (ps_Yc E) X r pc' lv (.int (M d 11) :: st) M) : ps_G (ps_Yc E) X r pc lv (.ref (ps_ad E d) :: st) M := gw_getS C pc' hd hp hk 11 (by decide) lk_X4_52 rfl rfl k
theorem pf_X4_52 {E : ps_E} {ρ : Type} {X : ps_X ρ} {cc : ByteArray} {ret : Option FieldType} {f n nL : Nat} (C : ps_C (ps_Yc E) X cc RX4 ret f n nL) {r : ρ} {pc : Nat} {lv : List (Nat × Value)} {st : List Value} {M : ps_M} (pc' : Nat) (hd : decode cc pc = .ok (.putfield 52, 3)) (hp : pc + 3 = pc') {d : Nat} (hk : ps_kd d = 4) {v : Int32} (k : ps_G (ps_Yc E) X r pc' lv st (ps_st M d 11 v)) : ps_G (ps_Yc E) X r pc lv (.int v :: .ref (ps_ad E d) :: st) M := gw_putS C pc' hd hp hk 11 (by decide) lk_X4_52 rfl (ty := .int) rfl (by decide +kernel) rfl rfl k
theorem gf_X5_141 {E : ps_E} {ρ : Type} {X : ps_X ρ} {cc : ByteArray} {ret : Option FieldType} {f n nL : Nat} (C : ps_C (ps_Yc E) X cc RX5 ret f n nL) {r : ρ} {pc : Nat} {lv : List (Nat × Value)} {st : List Value} {M : ps_M} (pc' : Nat) (hd : decode cc pc = .ok (.getfield 141, 3)) (hp : pc + 3 = pc') {d : Nat} (hk : ps_kd d = 4) (k : ps_G (ps_Yc E) X r pc' lv (.int (M d 11) :: st) M) : ps_G (ps_Yc E) X r pc lv (.ref (ps_ad E d) :: st) M := gw_getS C pc' hd hp hk 11 (by decide) lk_X5_141 rfl rfl k
theorem pf_X5_141 {E : ps_E} {ρ : Type} {X : ps_X ρ} {cc : ByteArray} {ret : Option FieldType} {f n nL : Nat} (C : ps_C (ps_Yc E) X cc RX5 ret f n nL) {r : ρ} {pc : Nat} {lv : List (Nat × Value)} {st : List Value} {M : ps_M} (pc' : Nat) (hd : decode cc pc = .ok (.putfield 141, 3)) (hp : pc + 3 = pc') {d : Nat} (hk : ps_kd d = 4) {v : Int32} (k : ps_G (ps_Yc E) X r pc' lv st (ps_st M d 11 v)) : ps_G (ps_Yc E) X r pc lv (.int v :: .ref (ps_ad E d) :: st) M := gw_putS C pc' hd hp hk 11 (by decide) lk_X5_141 rfl (ty := .int) rfl (by decide +kernel) rfl rfl k
theorem gf_X4_55 {E : ps_E} {ρ : Type} {X : ps_X ρ} {cc : ByteArray} {ret : Option FieldType} {f n nL : Nat} (C : ps_C (ps_Yc E) X cc RX4 ret f n nL) {r : ρ} {pc : Nat} {lv : List (Nat × Value)} {st : List Value} {M : ps_M} (pc' : Nat) (hd : decode cc pc = .ok (.getfield 55, 3)) (hp : pc + 3 = pc') {d : Nat} (hk : ps_kd d = 4) (k : ps_G (ps_Yc E) X r pc' lv (.int (M d 12) :: st) M) : ps_G (ps_Yc E) X r pc lv (.ref (ps_ad E d) :: st) M := gw_getS C pc' hd hp hk 12 (by decide) lk_X4_55 rfl rfl k
theorem pf_X4_55 {E : ps_E} {ρ : Type} {X : ps_X ρ} {cc : ByteArray} {ret : Option FieldType} {f n nL : Nat} (C : ps_C (ps_Yc E) X cc RX4 ret f n nL) {r : ρ} {pc : Nat} {lv : List (Nat × Value)} {st : List Value} {M : ps_M} (pc' : Nat) (hd : decode cc pc = .ok (.putfield 55, 3)) (hp : pc + 3 = pc') {d : Nat} (hk : ps_kd d = 4) {v : Int32} (k : ps_G (ps_Yc E) X r pc' lv st (ps_st M d 12 v)) : ps_G (ps_Yc E) X r pc lv (.int v :: .ref (ps_ad E d) :: st) M := gw_putS C pc' hd hp hk 12 (by decide) lk_X4_55 rfl (ty := .int) rfl (by decide +kernel) rfl rfl k
theorem gf_X5_138 {E : ps_E} {ρ : Type} {X : ps_X ρ} {cc : ByteArray} {ret : Option FieldType} {f n nL : Nat} (C : ps_C (ps_Yc E) X cc RX5 ret f n nL) {r : ρ} {pc : Nat} {lv : List (Nat × Value)} {st : List Value} {M : ps_M} (pc' : Nat) (hd : decode cc pc = .ok (.getfield 138, 3)) (hp : pc + 3 = pc') {d : Nat} (hk : ps_kd d = 4) (k : ps_G (ps_Yc E) X r pc' lv (.int (M d 12) :: st) M) : ps_G (ps_Yc E) X r pc lv (.ref (ps_ad E d) :: st) M := gw_getS C pc' hd hp hk 12 (by decide) lk_X5_138 rfl rfl k
theorem pf_X5_138 {E : ps_E} {ρ : Type} {X : ps_X ρ} {cc : ByteArray} {ret : Option FieldType} {f n nL : Nat} (C : ps_C (ps_Yc E) X cc RX5 ret f n nL) {r : ρ} {pc : Nat} {lv : List (Nat × Value)} {st : List Value} {M : ps_M} (pc' : Nat) (hd : decode cc pc = .ok (.putfield 138, 3)) (hp : pc + 3 = pc') {d : Nat} (hk : ps_kd d = 4) {v : Int32} (k : ps_G (ps_Yc E) X r pc' lv st (ps_st M d 12 v)) : ps_G (ps_Yc E) X r pc lv (.int v :: .ref (ps_ad E d) :: st) M := gw_putS C pc' hd hp hk 12 (by decide) lk_X5_138 rfl (ty := .int) rfl (by decide +kernel) rfl rfl k
theorem gf_X1_15 {E : ps_E} {ρ : Type} {X : ps_X ρ} {cc : ByteArray} {ret : Option FieldType} {f n nL : Nat} (C : ps_C (ps_Yc E) X cc RX1 ret f n nL) {r : ρ} {pc : Nat} {lv : List (Nat × Value)} {st : List Value} {M : ps_M} (pc' : Nat) (hd : decode cc pc = .ok (.getfield 15, 3)) (hp : pc + 3 = pc') {d : Nat} (hk : ps_kd d = 7) (k : ps_G (ps_Yc E) X r pc' lv (.int (M d 0) :: st) M) : ps_G (ps_Yc E) X r pc lv (.ref (ps_ad E d) :: st) M := gw_getK C pc' hd hp hk 0 (by decide) lk_X1_15 rfl rfl k
theorem pf_X1_15 {E : ps_E} {ρ : Type} {X : ps_X ρ} {cc : ByteArray} {ret : Option FieldType} {f n nL : Nat} (C : ps_C (ps_Yc E) X cc RX1 ret f n nL) {r : ρ} {pc : Nat} {lv : List (Nat × Value)} {st : List Value} {M : ps_M} (pc' : Nat) (hd : decode cc pc = .ok (.putfield 15, 3)) (hp : pc + 3 = pc') {d : Nat} (hk : ps_kd d = 7) {v : Int32} (k : ps_G (ps_Yc E) X r pc' lv st (ps_st M d 0 v)) : ps_G (ps_Yc E) X r pc lv (.int v :: .ref (ps_ad E d) :: st) M := gw_putK C pc' hd hp hk 0 (by decide) lk_X1_15 rfl (ty := .int) rfl (by decide +kernel) rfl rfl k
theorem gf_X2_42 {E : ps_E} {ρ : Type} {X : ps_X ρ} {cc : ByteArray} {ret : Option FieldType} {f n nL : Nat} (C : ps_C (ps_Yc E) X cc RX2 ret f n nL) {r : ρ} {pc : Nat} {lv : List (Nat × Value)} {st : List Value} {M : ps_M} (pc' : Nat) (hd : decode cc pc = .ok (.getfield 42, 3)) (hp : pc + 3 = pc') {d : Nat} (hk : ps_kd d = 7) (k : ps_G (ps_Yc E) X r pc' lv (.int (M d 0) :: st) M) : ps_G (ps_Yc E) X r pc lv (.ref (ps_ad E d) :: st) M := gw_getK C pc' hd hp hk 0 (by decide) lk_X2_42 rfl rfl k
theorem pf_X2_42 {E : ps_E} {ρ : Type} {X : ps_X ρ} {cc : ByteArray} {ret : Option FieldType} {f n nL : Nat} (C : ps_C (ps_Yc E) X cc RX2 ret f n nL) {r : ρ} {pc : Nat} {lv : List (Nat × Value)} {st : List Value} {M : ps_M} (pc' : Nat) (hd : decode cc pc = .ok (.putfield 42, 3)) (hp : pc + 3 = pc') {d : Nat} (hk : ps_kd d = 7) {v : Int32} (k : ps_G (ps_Yc E) X r pc' lv st (ps_st M d 0 v)) : ps_G (ps_Yc E) X r pc lv (.int v :: .ref (ps_ad E d) :: st) M := gw_putK C pc' hd hp hk 0 (by decide) lk_X2_42 rfl (ty := .int) rfl (by decide +kernel) rfl rfl k
theorem gf_X5_205 {E : ps_E} {ρ : Type} {X : ps_X ρ} {cc : ByteArray} {ret : Option FieldType} {f n nL : Nat} (C : ps_C (ps_Yc E) X cc RX5 ret f n nL) {r : ρ} {pc : Nat} {lv : List (Nat × Value)} {st : List Value} {M : ps_M} (pc' : Nat) (hd : decode cc pc = .ok (.getfield 205, 3)) (hp : pc + 3 = pc') {d : Nat} (hk : ps_kd d = 7) (k : ps_G (ps_Yc E) X r pc' lv (.int (M d 0) :: st) M) : ps_G (ps_Yc E) X r pc lv (.ref (ps_ad E d) :: st) M := gw_getK C pc' hd hp hk 0 (by decide) lk_X5_205 rfl rfl k
theorem gf_X1_18 {E : ps_E} {ρ : Type} {X : ps_X ρ} {cc : ByteArray} {ret : Option FieldType} {f n nL : Nat} (C : ps_C (ps_Yc E) X cc RX1 ret f n nL) {r : ρ} {pc : Nat} {lv : List (Nat × Value)} {st : List Value} {M : ps_M} (pc' : Nat) (hd : decode cc pc = .ok (.getfield 18, 3)) (hp : pc + 3 = pc') {d : Nat} (hk : ps_kd d = 7) (k : ps_G (ps_Yc E) X r pc' lv (.int (M d 1) :: st) M) : ps_G (ps_Yc E) X r pc lv (.ref (ps_ad E d) :: st) M := gw_getK C pc' hd hp hk 1 (by decide) lk_X1_18 rfl rfl k
theorem pf_X1_18 {E : ps_E} {ρ : Type} {X : ps_X ρ} {cc : ByteArray} {ret : Option FieldType} {f n nL : Nat} (C : ps_C (ps_Yc E) X cc RX1 ret f n nL) {r : ρ} {pc : Nat} {lv : List (Nat × Value)} {st : List Value} {M : ps_M} (pc' : Nat) (hd : decode cc pc = .ok (.putfield 18, 3)) (hp : pc + 3 = pc') {d : Nat} (hk : ps_kd d = 7) {v : Int32} (k : ps_G (ps_Yc E) X r pc' lv st (ps_st M d 1 v)) : ps_G (ps_Yc E) X r pc lv (.int v :: .ref (ps_ad E d) :: st) M := gw_putK C pc' hd hp hk 1 (by decide) lk_X1_18 rfl (ty := .int) rfl (by decide +kernel) rfl rfl k
theorem gf_X2_45 {E : ps_E} {ρ : Type} {X : ps_X ρ} {cc : ByteArray} {ret : Option FieldType} {f n nL : Nat} (C : ps_C (ps_Yc E) X cc RX2 ret f n nL) {r : ρ} {pc : Nat} {lv : List (Nat × Value)} {st : List Value} {M : ps_M} (pc' : Nat) (hd : decode cc pc = .ok (.getfield 45, 3)) (hp : pc + 3 = pc') {d : Nat} (hk : ps_kd d = 7) (k : ps_G (ps_Yc E) X r pc' lv (.int (M d 1) :: st) M) : ps_G (ps_Yc E) X r pc lv (.ref (ps_ad E d) :: st) M := gw_getK C pc' hd hp hk 1 (by decide) lk_X2_45 rfl rfl k
theorem pf_X2_45 {E : ps_E} {ρ : Type} {X : ps_X ρ} {cc : ByteArray} {ret : Option FieldType} {f n nL : Nat} (C : ps_C (ps_Yc E) X cc RX2 ret f n nL) {r : ρ} {pc : Nat} {lv : List (Nat × Value)} {st : List Value} {M : ps_M} (pc' : Nat) (hd : decode cc pc = .ok (.putfield 45, 3)) (hp : pc + 3 = pc') {d : Nat} (hk : ps_kd d = 7) {v : Int32} (k : ps_G (ps_Yc E) X r pc' lv st (ps_st M d 1 v)) : ps_G (ps_Yc E) X r pc lv (.int v :: .ref (ps_ad E d) :: st) M := gw_putK C pc' hd hp hk 1 (by decide) lk_X2_45 rfl (ty := .int) rfl (by decide +kernel) rfl rfl k
theorem gf_X5_208 {E : ps_E} {ρ : Type} {X : ps_X ρ} {cc : ByteArray} {ret : Option FieldType} {f n nL : Nat} (C : ps_C (ps_Yc E) X cc RX5 ret f n nL) {r : ρ} {pc : Nat} {lv : List (Nat × Value)} {st : List Value} {M : ps_M} (pc' : Nat) (hd : decode cc pc = .ok (.getfield 208, 3)) (hp : pc + 3 = pc') {d : Nat} (hk : ps_kd d = 7) (k : ps_G (ps_Yc E) X r pc' lv (.int (M d 1) :: st) M) : ps_G (ps_Yc E) X r pc lv (.ref (ps_ad E d) :: st) M := gw_getK C pc' hd hp hk 1 (by decide) lk_X5_208 rfl rfl k
theorem gf_X1_9 {E : ps_E} {ρ : Type} {X : ps_X ρ} {cc : ByteArray} {ret : Option FieldType} {f n nL : Nat} (C : ps_C (ps_Yc E) X cc RX1 ret f n nL) {r : ρ} {pc : Nat} {lv : List (Nat × Value)} {st : List Value} {M : ps_M} (pc' : Nat) (hd : decode cc pc = .ok (.getfield 9, 3)) (hp : pc + 3 = pc') {d : Nat} (hk : ps_kd d = 7) (k : ps_G (ps_Yc E) X r pc' lv (.int (M d 2) :: st) M) : ps_G (ps_Yc E) X r pc lv (.ref (ps_ad E d) :: st) M := gw_getK C pc' hd hp hk 2 (by decide) lk_X1_9 rfl rfl k
theorem pf_X1_9 {E : ps_E} {ρ : Type} {X : ps_X ρ} {cc : ByteArray} {ret : Option FieldType} {f n nL : Nat} (C : ps_C (ps_Yc E) X cc RX1 ret f n nL) {r : ρ} {pc : Nat} {lv : List (Nat × Value)} {st : List Value} {M : ps_M} (pc' : Nat) (hd : decode cc pc = .ok (.putfield 9, 3)) (hp : pc + 3 = pc') {d : Nat} (hk : ps_kd d = 7) {v : Int32} (k : ps_G (ps_Yc E) X r pc' lv st (ps_st M d 2 v)) : ps_G (ps_Yc E) X r pc lv (.int v :: .ref (ps_ad E d) :: st) M := gw_putK C pc' hd hp hk 2 (by decide) lk_X1_9 rfl (ty := .int) rfl (by decide +kernel) rfl rfl k
theorem gf_X2_72 {E : ps_E} {ρ : Type} {X : ps_X ρ} {cc : ByteArray} {ret : Option FieldType} {f n nL : Nat} (C : ps_C (ps_Yc E) X cc RX2 ret f n nL) {r : ρ} {pc : Nat} {lv : List (Nat × Value)} {st : List Value} {M : ps_M} (pc' : Nat) (hd : decode cc pc = .ok (.getfield 72, 3)) (hp : pc + 3 = pc') {d : Nat} (hk : ps_kd d = 7) (k : ps_G (ps_Yc E) X r pc' lv (.int (M d 2) :: st) M) : ps_G (ps_Yc E) X r pc lv (.ref (ps_ad E d) :: st) M := gw_getK C pc' hd hp hk 2 (by decide) lk_X2_72 rfl rfl k
theorem gf_X5_211 {E : ps_E} {ρ : Type} {X : ps_X ρ} {cc : ByteArray} {ret : Option FieldType} {f n nL : Nat} (C : ps_C (ps_Yc E) X cc RX5 ret f n nL) {r : ρ} {pc : Nat} {lv : List (Nat × Value)} {st : List Value} {M : ps_M} (pc' : Nat) (hd : decode cc pc = .ok (.getfield 211, 3)) (hp : pc + 3 = pc') {d : Nat} (hk : ps_kd d = 7) (k : ps_G (ps_Yc E) X r pc' lv (.int (M d 2) :: st) M) : ps_G (ps_Yc E) X r pc lv (.ref (ps_ad E d) :: st) M := gw_getK C pc' hd hp hk 2 (by decide) lk_X5_211 rfl rfl k
theorem gf_X1_21 {E : ps_E} {ρ : Type} {X : ps_X ρ} {cc : ByteArray} {ret : Option FieldType} {f n nL : Nat} (C : ps_C (ps_Yc E) X cc RX1 ret f n nL) {r : ρ} {pc : Nat} {lv : List (Nat × Value)} {st : List Value} {M : ps_M} (pc' : Nat) (hd : decode cc pc = .ok (.getfield 21, 3)) (hp : pc + 3 = pc') {d : Nat} (hk : ps_kd d = 7) (k : ps_G (ps_Yc E) X r pc' lv (.int (M d 3) :: st) M) : ps_G (ps_Yc E) X r pc lv (.ref (ps_ad E d) :: st) M := gw_getK C pc' hd hp hk 3 (by decide) lk_X1_21 rfl rfl k
theorem pf_X1_21 {E : ps_E} {ρ : Type} {X : ps_X ρ} {cc : ByteArray} {ret : Option FieldType} {f n nL : Nat} (C : ps_C (ps_Yc E) X cc RX1 ret f n nL) {r : ρ} {pc : Nat} {lv : List (Nat × Value)} {st : List Value} {M : ps_M} (pc' : Nat) (hd : decode cc pc = .ok (.putfield 21, 3)) (hp : pc + 3 = pc') {d : Nat} (hk : ps_kd d = 7) {v : Int32} (k : ps_G (ps_Yc E) X r pc' lv st (ps_st M d 3 v)) : ps_G (ps_Yc E) X r pc lv (.int v :: .ref (ps_ad E d) :: st) M := gw_putK C pc' hd hp hk 3 (by decide) lk_X1_21 rfl (ty := .int) rfl (by decide +kernel) rfl rfl k
theorem gf_X5_101 {E : ps_E} {ρ : Type} {X : ps_X ρ} {cc : ByteArray} {ret : Option FieldType} {f n nL : Nat} (C : ps_C (ps_Yc E) X cc RX5 ret f n nL) {r : ρ} {pc : Nat} {lv : List (Nat × Value)} {st : List Value} {M : ps_M} (pc' : Nat) (hd : decode cc pc = .ok (.getfield 101, 3)) (hp : pc + 3 = pc') {d : Nat} (hk : ps_kd d = 7) (k : ps_G (ps_Yc E) X r pc' lv (.int (M d 3) :: st) M) : ps_G (ps_Yc E) X r pc lv (.ref (ps_ad E d) :: st) M := gw_getK C pc' hd hp hk 3 (by decide) lk_X5_101 rfl rfl k
theorem gf_X1_24 {E : ps_E} {ρ : Type} {X : ps_X ρ} {cc : ByteArray} {ret : Option FieldType} {f n nL : Nat} (C : ps_C (ps_Yc E) X cc RX1 ret f n nL) {r : ρ} {pc : Nat} {lv : List (Nat × Value)} {st : List Value} {M : ps_M} (pc' : Nat) (hd : decode cc pc = .ok (.getfield 24, 3)) (hp : pc + 3 = pc') {d : Nat} (hk : ps_kd d = 7) (k : ps_G (ps_Yc E) X r pc' lv (.int (M d 4) :: st) M) : ps_G (ps_Yc E) X r pc lv (.ref (ps_ad E d) :: st) M := gw_getK C pc' hd hp hk 4 (by decide) lk_X1_24 rfl rfl k
theorem pf_X1_24 {E : ps_E} {ρ : Type} {X : ps_X ρ} {cc : ByteArray} {ret : Option FieldType} {f n nL : Nat} (C : ps_C (ps_Yc E) X cc RX1 ret f n nL) {r : ρ} {pc : Nat} {lv : List (Nat × Value)} {st : List Value} {M : ps_M} (pc' : Nat) (hd : decode cc pc = .ok (.putfield 24, 3)) (hp : pc + 3 = pc') {d : Nat} (hk : ps_kd d = 7) {v : Int32} (k : ps_G (ps_Yc E) X r pc' lv st (ps_st M d 4 v)) : ps_G (ps_Yc E) X r pc lv (.int v :: .ref (ps_ad E d) :: st) M := gw_putK C pc' hd hp hk 4 (by decide) lk_X1_24 rfl (ty := .int) rfl (by decide +kernel) rfl rfl k
theorem gf_X2_102 {E : ps_E} {ρ : Type} {X : ps_X ρ} {cc : ByteArray} {ret : Option FieldType} {f n nL : Nat} (C : ps_C (ps_Yc E) X cc RX2 ret f n nL) {r : ρ} {pc : Nat} {lv : List (Nat × Value)} {st : List Value} {M : ps_M} (pc' : Nat) (hd : decode cc pc = .ok (.getfield 102, 3)) (hp : pc + 3 = pc') {d : Nat} (hk : ps_kd d = 7) (k : ps_G (ps_Yc E) X r pc' lv (.int (M d 4) :: st) M) : ps_G (ps_Yc E) X r pc lv (.ref (ps_ad E d) :: st) M := gw_getK C pc' hd hp hk 4 (by decide) lk_X2_102 rfl rfl k
theorem gf_X5_214 {E : ps_E} {ρ : Type} {X : ps_X ρ} {cc : ByteArray} {ret : Option FieldType} {f n nL : Nat} (C : ps_C (ps_Yc E) X cc RX5 ret f n nL) {r : ρ} {pc : Nat} {lv : List (Nat × Value)} {st : List Value} {M : ps_M} (pc' : Nat) (hd : decode cc pc = .ok (.getfield 214, 3)) (hp : pc + 3 = pc') {d : Nat} (hk : ps_kd d = 7) (k : ps_G (ps_Yc E) X r pc' lv (.int (M d 4) :: st) M) : ps_G (ps_Yc E) X r pc lv (.ref (ps_ad E d) :: st) M := gw_getK C pc' hd hp hk 4 (by decide) lk_X5_214 rfl rfl k
theorem gf_X1_27 {E : ps_E} {ρ : Type} {X : ps_X ρ} {cc : ByteArray} {ret : Option FieldType} {f n nL : Nat} (C : ps_C (ps_Yc E) X cc RX1 ret f n nL) {r : ρ} {pc : Nat} {lv : List (Nat × Value)} {st : List Value} {M : ps_M} (pc' : Nat) (hd : decode cc pc = .ok (.getfield 27, 3)) (hp : pc + 3 = pc') {d : Nat} (hk : ps_kd d = 7) (k : ps_G (ps_Yc E) X r pc' lv (.int (M d 5) :: st) M) : ps_G (ps_Yc E) X r pc lv (.ref (ps_ad E d) :: st) M := gw_getK C pc' hd hp hk 5 (by decide) lk_X1_27 rfl rfl k
theorem pf_X1_27 {E : ps_E} {ρ : Type} {X : ps_X ρ} {cc : ByteArray} {ret : Option FieldType} {f n nL : Nat} (C : ps_C (ps_Yc E) X cc RX1 ret f n nL) {r : ρ} {pc : Nat} {lv : List (Nat × Value)} {st : List Value} {M : ps_M} (pc' : Nat) (hd : decode cc pc = .ok (.putfield 27, 3)) (hp : pc + 3 = pc') {d : Nat} (hk : ps_kd d = 7) {v : Int32} (k : ps_G (ps_Yc E) X r pc' lv st (ps_st M d 5 v)) : ps_G (ps_Yc E) X r pc lv (.int v :: .ref (ps_ad E d) :: st) M := gw_putK C pc' hd hp hk 5 (by decide) lk_X1_27 rfl (ty := .int) rfl (by decide +kernel) rfl rfl k
theorem gf_X2_25 {E : ps_E} {ρ : Type} {X : ps_X ρ} {cc : ByteArray} {ret : Option FieldType} {f n nL : Nat} (C : ps_C (ps_Yc E) X cc RX2 ret f n nL) {r : ρ} {pc : Nat} {lv : List (Nat × Value)} {st : List Value} {M : ps_M} (pc' : Nat) (hd : decode cc pc = .ok (.getfield 25, 3)) (hp : pc + 3 = pc') {d : Nat} (hk : ps_kd d = 2) (k : ps_G (ps_Yc E) X r pc' lv (.int (M d 0) :: st) M) : ps_G (ps_Yc E) X r pc lv (.ref (ps_ad E d) :: st) M := gw_getD C pc' hd hp hk 0 (by decide) lk_X2_25 rfl rfl k
theorem pf_X2_25 {E : ps_E} {ρ : Type} {X : ps_X ρ} {cc : ByteArray} {ret : Option FieldType} {f n nL : Nat} (C : ps_C (ps_Yc E) X cc RX2 ret f n nL) {r : ρ} {pc : Nat} {lv : List (Nat × Value)} {st : List Value} {M : ps_M} (pc' : Nat) (hd : decode cc pc = .ok (.putfield 25, 3)) (hp : pc + 3 = pc') {d : Nat} (hk : ps_kd d = 2) {v : Int32} (k : ps_G (ps_Yc E) X r pc' lv st (ps_st M d 0 v)) : ps_G (ps_Yc E) X r pc lv (.int v :: .ref (ps_ad E d) :: st) M := gw_putD C pc' hd hp hk 0 (by decide) lk_X2_25 rfl (ty := .int) rfl (by decide +kernel) rfl rfl k
theorem gf_X5_107 {E : ps_E} {ρ : Type} {X : ps_X ρ} {cc : ByteArray} {ret : Option FieldType} {f n nL : Nat} (C : ps_C (ps_Yc E) X cc RX5 ret f n nL) {r : ρ} {pc : Nat} {lv : List (Nat × Value)} {st : List Value} {M : ps_M} (pc' : Nat) (hd : decode cc pc = .ok (.getfield 107, 3)) (hp : pc + 3 = pc') {d : Nat} (hk : ps_kd d = 2) (k : ps_G (ps_Yc E) X r pc' lv (.int (M d 0) :: st) M) : ps_G (ps_Yc E) X r pc lv (.ref (ps_ad E d) :: st) M := gw_getD C pc' hd hp hk 0 (by decide) lk_X5_107 rfl rfl k
theorem gf_X5_43 {E : ps_E} {ρ : Type} {X : ps_X ρ} {cc : ByteArray} {ret : Option FieldType} {f n nL : Nat} (C : ps_C (ps_Yc E) X cc RX5 ret f n nL) {r : ρ} {pc : Nat} {lv : List (Nat × Value)} {st : List Value} {M : ps_M} (pc' : Nat) (hd : decode cc pc = .ok (.getfield 43, 3)) (hp : pc + 3 = pc') {d : Nat} (hk : ps_kd d = 2) (k : ps_G (ps_Yc E) X r pc' lv (.int (M d 1) :: st) M) : ps_G (ps_Yc E) X r pc lv (.ref (ps_ad E d) :: st) M := gw_getD C pc' hd hp hk 1 (by decide) lk_X5_43 rfl rfl k
theorem pf_X5_43 {E : ps_E} {ρ : Type} {X : ps_X ρ} {cc : ByteArray} {ret : Option FieldType} {f n nL : Nat} (C : ps_C (ps_Yc E) X cc RX5 ret f n nL) {r : ρ} {pc : Nat} {lv : List (Nat × Value)} {st : List Value} {M : ps_M} (pc' : Nat) (hd : decode cc pc = .ok (.putfield 43, 3)) (hp : pc + 3 = pc') {d : Nat} (hk : ps_kd d = 2) {v : Int32} (k : ps_G (ps_Yc E) X r pc' lv st (ps_st M d 1 v)) : ps_G (ps_Yc E) X r pc lv (.int v :: .ref (ps_ad E d) :: st) M := gw_putD C pc' hd hp hk 1 (by decide) lk_X5_43 rfl (ty := .int) rfl (by decide +kernel) rfl rfl k
theorem gf_X2_29 {E : ps_E} {ρ : Type} {X : ps_X ρ} {cc : ByteArray} {ret : Option FieldType} {f n nL : Nat} (C : ps_C (ps_Yc E) X cc RX2 ret f n nL) {r : ρ} {pc : Nat} {lv : List (Nat × Value)} {st : List Value} {M : ps_M} (pc' : Nat) (hd : decode cc pc = .ok (.getfield 29, 3)) (hp : pc + 3 = pc') {d : Nat} (hk : ps_kd d = 2) (k : ps_G (ps_Yc E) X r pc' lv (.int (M d 1) :: st) M) : ps_G (ps_Yc E) X r pc lv (.ref (ps_ad E d) :: st) M := gw_getD C pc' hd hp hk 1 (by decide) lk_X2_29 rfl rfl k
theorem pf_X2_29 {E : ps_E} {ρ : Type} {X : ps_X ρ} {cc : ByteArray} {ret : Option FieldType} {f n nL : Nat} (C : ps_C (ps_Yc E) X cc RX2 ret f n nL) {r : ρ} {pc : Nat} {lv : List (Nat × Value)} {st : List Value} {M : ps_M} (pc' : Nat) (hd : decode cc pc = .ok (.putfield 29, 3)) (hp : pc + 3 = pc') {d : Nat} (hk : ps_kd d = 2) {v : Int32} (k : ps_G (ps_Yc E) X r pc' lv st (ps_st M d 1 v)) : ps_G (ps_Yc E) X r pc lv (.int v :: .ref (ps_ad E d) :: st) M := gw_putD C pc' hd hp hk 1 (by decide) lk_X2_29 rfl (ty := .int) rfl (by decide +kernel) rfl rfl k
theorem gf_X2_32 {E : ps_E} {ρ : Type} {X : ps_X ρ} {cc : ByteArray} {ret : Option FieldType} {f n nL : Nat} (C : ps_C (ps_Yc E) X cc RX2 ret f n nL) {r : ρ} {pc : Nat} {lv : List (Nat × Value)} {st : List Value} {M : ps_M} (pc' : Nat) (hd : decode cc pc = .ok (.getfield 32, 3)) (hp : pc + 3 = pc') {d : Nat} (hk : ps_kd d = 2) (k : ps_G (ps_Yc E) X r pc' lv (.int (M d 2) :: st) M) : ps_G (ps_Yc E) X r pc lv (.ref (ps_ad E d) :: st) M := gw_getD C pc' hd hp hk 2 (by decide) lk_X2_32 rfl rfl k
theorem pf_X2_32 {E : ps_E} {ρ : Type} {X : ps_X ρ} {cc : ByteArray} {ret : Option FieldType} {f n nL : Nat} (C : ps_C (ps_Yc E) X cc RX2 ret f n nL) {r : ρ} {pc : Nat} {lv : List (Nat × Value)} {st : List Value} {M : ps_M} (pc' : Nat) (hd : decode cc pc = .ok (.putfield 32, 3)) (hp : pc + 3 = pc') {d : Nat} (hk : ps_kd d = 2) {v : Int32} (k : ps_G (ps_Yc E) X r pc' lv st (ps_st M d 2 v)) : ps_G (ps_Yc E) X r pc lv (.int v :: .ref (ps_ad E d) :: st) M := gw_putD C pc' hd hp hk 2 (by decide) lk_X2_32 rfl (ty := .int) rfl (by decide +kernel) rfl rfl k
theorem gf_X5_55 {E : ps_E} {ρ : Type} {X : ps_X ρ} {cc : ByteArray} {ret : Option FieldType} {f n nL : Nat} (C : ps_C (ps_Yc E) X cc RX5 ret f n nL) {r : ρ} {pc : Nat} {lv : List (Nat × Value)} {st : List Value} {M : ps_M} (pc' : Nat) (hd : decode cc pc = .ok (.getfield 55, 3)) (hp : pc + 3 = pc') {d : Nat} (hk : ps_kd d = 2) (k : ps_G (ps_Yc E) X r pc' lv (.int (M d 2) :: st) M) : ps_G (ps_Yc E) X r pc lv (.ref (ps_ad E d) :: st) M := gw_getD C pc' hd hp hk 2 (by decide) lk_X5_55 rfl rfl k
theorem gf_X2_11 {E : ps_E} {ρ : Type} {X : ps_X ρ} {cc : ByteArray} {ret : Option FieldType} {f n nL : Nat} (C : ps_C (ps_Yc E) X cc RX2 ret f n nL) {r : ρ} {pc : Nat} {lv : List (Nat × Value)} {st : List Value} {M : ps_M} (pc' : Nat) (hd : decode cc pc = .ok (.getfield 11, 3)) (hp : pc + 3 = pc') {d : Nat} (hk : ps_kd d = 2) (k : ps_G (ps_Yc E) X r pc' lv (.ref (ps_ad E (d + 1)) :: st) M) : ps_G (ps_Yc E) X r pc lv (.ref (ps_ad E d) :: st) M := gw_getD C pc' hd hp hk 3 (by decide) lk_X2_11 rfl rfl k
theorem gf_X5_69 {E : ps_E} {ρ : Type} {X : ps_X ρ} {cc : ByteArray} {ret : Option FieldType} {f n nL : Nat} (C : ps_C (ps_Yc E) X cc RX5 ret f n nL) {r : ρ} {pc : Nat} {lv : List (Nat × Value)} {st : List Value} {M : ps_M} (pc' : Nat) (hd : decode cc pc = .ok (.getfield 69, 3)) (hp : pc + 3 = pc') {d : Nat} (hk : ps_kd d = 2) (k : ps_G (ps_Yc E) X r pc' lv (.ref (ps_ad E (d + 1)) :: st) M) : ps_G (ps_Yc E) X r pc lv (.ref (ps_ad E d) :: st) M := gw_getD C pc' hd hp hk 3 (by decide) lk_X5_69 rfl rfl k
theorem gf_X2_20 {E : ps_E} {ρ : Type} {X : ps_X ρ} {cc : ByteArray} {ret : Option FieldType} {f n nL : Nat} (C : ps_C (ps_Yc E) X cc RX2 ret f n nL) {r : ρ} {pc : Nat} {lv : List (Nat × Value)} {st : List Value} {M : ps_M} (pc' : Nat) (hd : decode cc pc = .ok (.getfield 20, 3)) (hp : pc + 3 = pc') {d : Nat} (hk : ps_kd d = 2) (k : ps_G (ps_Yc E) X r pc' lv (.ref (ps_ad E (d + 14)) :: st) M) : ps_G (ps_Yc E) X r pc lv (.ref (ps_ad E d) :: st) M := gw_getD C pc' hd hp hk 4 (by decide) lk_X2_20 rfl rfl k
theorem gf_X5_80 {E : ps_E} {ρ : Type} {X : ps_X ρ} {cc : ByteArray} {ret : Option FieldType} {f n nL : Nat} (C : ps_C (ps_Yc E) X cc RX5 ret f n nL) {r : ρ} {pc : Nat} {lv : List (Nat × Value)} {st : List Value} {M : ps_M} (pc' : Nat) (hd : decode cc pc = .ok (.getfield 80, 3)) (hp : pc + 3 = pc') {d : Nat} (hk : ps_kd d = 2) (k : ps_G (ps_Yc E) X r pc' lv (.ref (ps_ad E (d + 14)) :: st) M) : ps_G (ps_Yc E) X r pc lv (.ref (ps_ad E d) :: st) M := gw_getD C pc' hd hp hk 4 (by decide) lk_X5_80 rfl rfl k
theorem gf_X3_11 {E : ps_E} {ρ : Type} {X : ps_X ρ} {cc : ByteArray} {ret : Option FieldType} {f n nL : Nat} (C : ps_C (ps_Yc E) X cc RX3 ret f n nL) {r : ρ} {pc : Nat} {lv : List (Nat × Value)} {st : List Value} {M : ps_M} (pc' : Nat) (hd : decode cc pc = .ok (.getfield 11, 3)) (hp : pc + 3 = pc') (k : ps_G (ps_Yc E) X r pc' lv (.ref (ps_ad E 193) :: st) M) : ps_G (ps_Yc E) X r pc lv (.ref (ps_ad E 192) :: st) M := gw_getH C pc' hd hp kd_H 0 (by decide) lk_X3_11 rfl rfl k
theorem gf_X3_18 {E : ps_E} {ρ : Type} {X : ps_X ρ} {cc : ByteArray} {ret : Option FieldType} {f n nL : Nat} (C : ps_C (ps_Yc E) X cc RX3 ret f n nL) {r : ρ} {pc : Nat} {lv : List (Nat × Value)} {st : List Value} {M : ps_M} (pc' : Nat) (hd : decode cc pc = .ok (.getfield 18, 3)) (hp : pc + 3 = pc') (k : ps_G (ps_Yc E) X r pc' lv (.int (M 192 1) :: st) M) : ps_G (ps_Yc E) X r pc lv (.ref (ps_ad E 192) :: st) M := gw_getH C pc' hd hp kd_H 1 (by decide) lk_X3_18 rfl rfl k
theorem pf_X3_18 {E : ps_E} {ρ : Type} {X : ps_X ρ} {cc : ByteArray} {ret : Option FieldType} {f n nL : Nat} (C : ps_C (ps_Yc E) X cc RX3 ret f n nL) {r : ρ} {pc : Nat} {lv : List (Nat × Value)} {st : List Value} {M : ps_M} (pc' : Nat) (hd : decode cc pc = .ok (.putfield 18, 3)) (hp : pc + 3 = pc') {v : Int32} (k : ps_G (ps_Yc E) X r pc' lv st (ps_st M 192 1 v)) : ps_G (ps_Yc E) X r pc lv (.int v :: .ref (ps_ad E 192) :: st) M := gw_putH C pc' hd hp kd_H 1 (by decide) lk_X3_18 rfl (ty := .int) rfl (by decide +kernel) rfl rfl k
theorem gf_X5_170 {E : ps_E} {ρ : Type} {X : ps_X ρ} {cc : ByteArray} {ret : Option FieldType} {f n nL : Nat} (C : ps_C (ps_Yc E) X cc RX5 ret f n nL) {r : ρ} {pc : Nat} {lv : List (Nat × Value)} {st : List Value} {M : ps_M} (pc' : Nat) (hd : decode cc pc = .ok (.getfield 170, 3)) (hp : pc + 3 = pc') (k : ps_G (ps_Yc E) X r pc' lv (.int (M 192 1) :: st) M) : ps_G (ps_Yc E) X r pc lv (.ref (ps_ad E 192) :: st) M := gw_getH C pc' hd hp kd_H 1 (by decide) lk_X5_170 rfl rfl k
theorem gf_X0_9 {E : ps_E} {ρ : Type} {X : ps_X ρ} {cc : ByteArray} {ret : Option FieldType} {f n nL : Nat} (C : ps_C (ps_Yc E) X cc RX0 ret f n nL) {r : ρ} {pc : Nat} {lv : List (Nat × Value)} {st : List Value} {M : ps_M} (pc' : Nat) (hd : decode cc pc = .ok (.getfield 9, 3)) (hp : pc + 3 = pc') (k : ps_G (ps_Yc E) X r pc' lv (.ref (ps_ad E 195) :: st) M) : ps_G (ps_Yc E) X r pc lv (.ref (ps_ad E 194) :: st) M := gw_getT C pc' hd hp kd_T 0 (by decide) lk_X0_9 rfl rfl k
theorem gf_X5_147 {E : ps_E} {ρ : Type} {X : ps_X ρ} {cc : ByteArray} {ret : Option FieldType} {f n nL : Nat} (C : ps_C (ps_Yc E) X cc RX5 ret f n nL) {r : ρ} {pc : Nat} {lv : List (Nat × Value)} {st : List Value} {M : ps_M} (pc' : Nat) (hd : decode cc pc = .ok (.getfield 147, 3)) (hp : pc + 3 = pc') (k : ps_G (ps_Yc E) X r pc' lv (.ref (ps_ad E 195) :: st) M) : ps_G (ps_Yc E) X r pc lv (.ref (ps_ad E 194) :: st) M := gw_getT C pc' hd hp kd_T 0 (by decide) lk_X5_147 rfl rfl k
theorem gf_X0_15 {E : ps_E} {ρ : Type} {X : ps_X ρ} {cc : ByteArray} {ret : Option FieldType} {f n nL : Nat} (C : ps_C (ps_Yc E) X cc RX0 ret f n nL) {r : ρ} {pc : Nat} {lv : List (Nat × Value)} {st : List Value} {M : ps_M} (pc' : Nat) (hd : decode cc pc = .ok (.getfield 15, 3)) (hp : pc + 3 = pc') (k : ps_G (ps_Yc E) X r pc' lv (.ref (ps_ad E 196) :: st) M) : ps_G (ps_Yc E) X r pc lv (.ref (ps_ad E 194) :: st) M := gw_getT C pc' hd hp kd_T 1 (by decide) lk_X0_15 rfl rfl k
theorem gf_X5_161 {E : ps_E} {ρ : Type} {X : ps_X ρ} {cc : ByteArray} {ret : Option FieldType} {f n nL : Nat} (C : ps_C (ps_Yc E) X cc RX5 ret f n nL) {r : ρ} {pc : Nat} {lv : List (Nat × Value)} {st : List Value} {M : ps_M} (pc' : Nat) (hd : decode cc pc = .ok (.getfield 161, 3)) (hp : pc + 3 = pc') (k : ps_G (ps_Yc E) X r pc' lv (.ref (ps_ad E 196) :: st) M) : ps_G (ps_Yc E) X r pc lv (.ref (ps_ad E 194) :: st) M := gw_getT C pc' hd hp kd_T 1 (by decide) lk_X5_161 rfl rfl k
theorem gf_X0_19 {E : ps_E} {ρ : Type} {X : ps_X ρ} {cc : ByteArray} {ret : Option FieldType} {f n nL : Nat} (C : ps_C (ps_Yc E) X cc RX0 ret f n nL) {r : ρ} {pc : Nat} {lv : List (Nat × Value)} {st : List Value} {M : ps_M} (pc' : Nat) (hd : decode cc pc = .ok (.getfield 19, 3)) (hp : pc + 3 = pc') (k : ps_G (ps_Yc E) X r pc' lv (.int (M 194 2) :: st) M) : ps_G (ps_Yc E) X r pc lv (.ref (ps_ad E 194) :: st) M := gw_getT C pc' hd hp kd_T 2 (by decide) lk_X0_19 rfl rfl k
theorem gf_X5_144 {E : ps_E} {ρ : Type} {X : ps_X ρ} {cc : ByteArray} {ret : Option FieldType} {f n nL : Nat} (C : ps_C (ps_Yc E) X cc RX5 ret f n nL) {r : ρ} {pc : Nat} {lv : List (Nat × Value)} {st : List Value} {M : ps_M} (pc' : Nat) (hd : decode cc pc = .ok (.getfield 144, 3)) (hp : pc + 3 = pc') (k : ps_G (ps_Yc E) X r pc' lv (.int (M 194 2) :: st) M) : ps_G (ps_Yc E) X r pc lv (.ref (ps_ad E 194) :: st) M := gw_getT C pc' hd hp kd_T 2 (by decide) lk_X5_144 rfl rfl k
theorem pf_X5_144 {E : ps_E} {ρ : Type} {X : ps_X ρ} {cc : ByteArray} {ret : Option FieldType} {f n nL : Nat} (C : ps_C (ps_Yc E) X cc RX5 ret f n nL) {r : ρ} {pc : Nat} {lv : List (Nat × Value)} {st : List Value} {M : ps_M} (pc' : Nat) (hd : decode cc pc = .ok (.putfield 144, 3)) (hp : pc + 3 = pc') {v : Int32} (k : ps_G (ps_Yc E) X r pc' lv st (ps_st M 194 2 v)) : ps_G (ps_Yc E) X r pc lv (.int v :: .ref (ps_ad E 194) :: st) M := gw_putT C pc' hd hp kd_T 2 (by decide) lk_X5_144 rfl (ty := .int) rfl (by decide +kernel) rfl rfl k
theorem gf_X5_12 {E : ps_E} {ρ : Type} {X : ps_X ρ} {cc : ByteArray} {ret : Option FieldType} {f n nL : Nat} (C : ps_C (ps_Yc E) X cc RX5 ret f n nL) {r : ρ} {pc : Nat} {lv : List (Nat × Value)} {st : List Value} {M : ps_M} (pc' : Nat) (hd : decode cc pc = .ok (.getfield 12, 3)) (hp : pc + 3 = pc') (k : ps_G (ps_Yc E) X r pc' lv (.ref (ps_ad E 1) :: st) M) : ps_G (ps_Yc E) X r pc lv (.ref (ps_ad E 0) :: st) M := gw_getP C pc' hd hp kd_P 0 (by decide) lk_X5_12 rfl rfl k
theorem gf_X5_16 {E : ps_E} {ρ : Type} {X : ps_X ρ} {cc : ByteArray} {ret : Option FieldType} {f n nL : Nat} (C : ps_C (ps_Yc E) X cc RX5 ret f n nL) {r : ρ} {pc : Nat} {lv : List (Nat × Value)} {st : List Value} {M : ps_M} (pc' : Nat) (hd : decode cc pc = .ok (.getfield 16, 3)) (hp : pc + 3 = pc') (k : ps_G (ps_Yc E) X r pc' lv (.ref (ps_ad E 28) :: st) M) : ps_G (ps_Yc E) X r pc lv (.ref (ps_ad E 0) :: st) M := gw_getP C pc' hd hp kd_P 1 (by decide) lk_X5_16 rfl rfl k
theorem gf_X5_19 {E : ps_E} {ρ : Type} {X : ps_X ρ} {cc : ByteArray} {ret : Option FieldType} {f n nL : Nat} (C : ps_C (ps_Yc E) X cc RX5 ret f n nL) {r : ρ} {pc : Nat} {lv : List (Nat × Value)} {st : List Value} {M : ps_M} (pc' : Nat) (hd : decode cc pc = .ok (.getfield 19, 3)) (hp : pc + 3 = pc') (k : ps_G (ps_Yc E) X r pc' lv (.ref (ps_ad E 55) :: st) M) : ps_G (ps_Yc E) X r pc lv (.ref (ps_ad E 0) :: st) M := gw_getP C pc' hd hp kd_P 2 (by decide) lk_X5_19 rfl rfl k
theorem gf_X5_179 {E : ps_E} {ρ : Type} {X : ps_X ρ} {cc : ByteArray} {ret : Option FieldType} {f n nL : Nat} (C : ps_C (ps_Yc E) X cc RX5 ret f n nL) {r : ρ} {pc : Nat} {lv : List (Nat × Value)} {st : List Value} {M : ps_M} (pc' : Nat) (hd : decode cc pc = .ok (.getfield 179, 3)) (hp : pc + 3 = pc') (k : ps_G (ps_Yc E) X r pc' lv (.int (M 0 3) :: st) M) : ps_G (ps_Yc E) X r pc lv (.ref (ps_ad E 0) :: st) M := gw_getP C pc' hd hp kd_P 3 (by decide) lk_X5_179 rfl rfl k
theorem pf_X5_179 {E : ps_E} {ρ : Type} {X : ps_X ρ} {cc : ByteArray} {ret : Option FieldType} {f n nL : Nat} (C : ps_C (ps_Yc E) X cc RX5 ret f n nL) {r : ρ} {pc : Nat} {lv : List (Nat × Value)} {st : List Value} {M : ps_M} (pc' : Nat) (hd : decode cc pc = .ok (.putfield 179, 3)) (hp : pc + 3 = pc') {v : Int32} (hn9 : narrow .boolean (.int v) = .int v) (hfit : fits .boolean (.int v) = true) (k : ps_G (ps_Yc E) X r pc' lv st (ps_st M 0 3 v)) : ps_G (ps_Yc E) X r pc lv (.int v :: .ref (ps_ad E 0) :: st) M := gw_putP C pc' hd hp kd_P 3 (by decide) lk_X5_179 rfl (ty := .boolean) rfl (by decide +kernel) hn9 hfit k
theorem gf_X5_25 {E : ps_E} {ρ : Type} {X : ps_X ρ} {cc : ByteArray} {ret : Option FieldType} {f n nL : Nat} (C : ps_C (ps_Yc E) X cc RX5 ret f n nL) {r : ρ} {pc : Nat} {lv : List (Nat × Value)} {st : List Value} {M : ps_M} (pc' : Nat) (hd : decode cc pc = .ok (.getfield 25, 3)) (hp : pc + 3 = pc') (k : ps_G (ps_Yc E) X r pc' lv (.ref (ps_ad E 190) :: st) M) : ps_G (ps_Yc E) X r pc lv (.ref (ps_ad E 0) :: st) M := gw_getP C pc' hd hp kd_P 4 (by decide) lk_X5_25 rfl rfl k
theorem gf_X5_32 {E : ps_E} {ρ : Type} {X : ps_X ρ} {cc : ByteArray} {ret : Option FieldType} {f n nL : Nat} (C : ps_C (ps_Yc E) X cc RX5 ret f n nL) {r : ρ} {pc : Nat} {lv : List (Nat × Value)} {st : List Value} {M : ps_M} (pc' : Nat) (hd : decode cc pc = .ok (.getfield 32, 3)) (hp : pc + 3 = pc') (k : ps_G (ps_Yc E) X r pc' lv (.ref (ps_ad E 192) :: st) M) : ps_G (ps_Yc E) X r pc lv (.ref (ps_ad E 0) :: st) M := gw_getP C pc' hd hp kd_P 5 (by decide) lk_X5_32 rfl rfl k
theorem gf_X5_39 {E : ps_E} {ρ : Type} {X : ps_X ρ} {cc : ByteArray} {ret : Option FieldType} {f n nL : Nat} (C : ps_C (ps_Yc E) X cc RX5 ret f n nL) {r : ρ} {pc : Nat} {lv : List (Nat × Value)} {st : List Value} {M : ps_M} (pc' : Nat) (hd : decode cc pc = .ok (.getfield 39, 3)) (hp : pc + 3 = pc') (k : ps_G (ps_Yc E) X r pc' lv (.ref (ps_ad E 194) :: st) M) : ps_G (ps_Yc E) X r pc lv (.ref (ps_ad E 0) :: st) M := gw_getP C pc' hd hp kd_P 6 (by decide) lk_X5_39 rfl rfl k
theorem gf_X6_7 {E : ps_E} {ρ : Type} {X : ps_X ρ} {cc : ByteArray} {ret : Option FieldType} {f n nL : Nat} (C : ps_C (pm_Y E) X cc RX6 ret f n nL) {r : ρ} {pc : Nat} {lv : List (Nat × Value)} {st : List Value} {M : ps_M} (pc' : Nat) (hd : decode cc pc = .ok (.getfield 7, 3)) (hp : pc + 3 = pc') (k : ps_G (pm_Y E) X r pc' lv (.ref (ps_ad E 1) :: st) M) : ps_G (pm_Y E) X r pc lv (.ref (ps_ad E 0) :: st) M := gm_get C pc' hd hp  0 (by decide) lk_X6_7 rfl rfl k
theorem gf_X6_13 {E : ps_E} {ρ : Type} {X : ps_X ρ} {cc : ByteArray} {ret : Option FieldType} {f n nL : Nat} (C : ps_C (pm_Y E) X cc RX6 ret f n nL) {r : ρ} {pc : Nat} {lv : List (Nat × Value)} {st : List Value} {M : ps_M} (pc' : Nat) (hd : decode cc pc = .ok (.getfield 13, 3)) (hp : pc + 3 = pc') (k : ps_G (pm_Y E) X r pc' lv (.ref (ps_ad E 2) :: st) M) : ps_G (pm_Y E) X r pc lv (.ref (ps_ad E 0) :: st) M := gm_get C pc' hd hp  1 (by decide) lk_X6_13 rfl rfl k
theorem gf_X6_28 {E : ps_E} {ρ : Type} {X : ps_X ρ} {cc : ByteArray} {ret : Option FieldType} {f n nL : Nat} (C : ps_C (pm_Y E) X cc RX6 ret f n nL) {r : ρ} {pc : Nat} {lv : List (Nat × Value)} {st : List Value} {M : ps_M} (pc' : Nat) (hd : decode cc pc = .ok (.getfield 28, 3)) (hp : pc + 3 = pc') (k : ps_G (pm_Y E) X r pc' lv (.int (M 0 2) :: st) M) : ps_G (pm_Y E) X r pc lv (.ref (ps_ad E 0) :: st) M := gm_get C pc' hd hp  2 (by decide) lk_X6_28 rfl rfl k
theorem pf_X6_28 {E : ps_E} {ρ : Type} {X : ps_X ρ} {cc : ByteArray} {ret : Option FieldType} {f n nL : Nat} (C : ps_C (pm_Y E) X cc RX6 ret f n nL) {r : ρ} {pc : Nat} {lv : List (Nat × Value)} {st : List Value} {M : ps_M} (pc' : Nat) (hd : decode cc pc = .ok (.putfield 28, 3)) (hp : pc + 3 = pc') {v : Int32} (k : ps_G (pm_Y E) X r pc' lv st (ps_st M 0 2 v)) : ps_G (pm_Y E) X r pc lv (.int v :: .ref (ps_ad E 0) :: st) M := gm_put C pc' hd hp  2 (by decide) lk_X6_28 rfl (ty := .int) rfl (by decide +kernel) rfl rfl k
theorem gf_X6_16 {E : ps_E} {ρ : Type} {X : ps_X ρ} {cc : ByteArray} {ret : Option FieldType} {f n nL : Nat} (C : ps_C (pm_Y E) X cc RX6 ret f n nL) {r : ρ} {pc : Nat} {lv : List (Nat × Value)} {st : List Value} {M : ps_M} (pc' : Nat) (hd : decode cc pc = .ok (.getfield 16, 3)) (hp : pc + 3 = pc') (k : ps_G (pm_Y E) X r pc' lv (.ref (ps_ad E 3) :: st) M) : ps_G (pm_Y E) X r pc lv (.ref (ps_ad E 0) :: st) M := gm_get C pc' hd hp  3 (by decide) lk_X6_16 rfl rfl k
theorem gf_X6_110 {E : ps_E} {ρ : Type} {X : ps_X ρ} {cc : ByteArray} {ret : Option FieldType} {f n nL : Nat} (C : ps_C (pm_Y E) X cc RX6 ret f n nL) {r : ρ} {pc : Nat} {lv : List (Nat × Value)} {st : List Value} {M : ps_M} (pc' : Nat) (hd : decode cc pc = .ok (.getfield 110, 3)) (hp : pc + 3 = pc') (k : ps_G (pm_Y E) X r pc' lv (.int (M 0 4) :: st) M) : ps_G (pm_Y E) X r pc lv (.ref (ps_ad E 0) :: st) M := gm_get C pc' hd hp  4 (by decide) lk_X6_110 rfl rfl k
theorem pf_X6_110 {E : ps_E} {ρ : Type} {X : ps_X ρ} {cc : ByteArray} {ret : Option FieldType} {f n nL : Nat} (C : ps_C (pm_Y E) X cc RX6 ret f n nL) {r : ρ} {pc : Nat} {lv : List (Nat × Value)} {st : List Value} {M : ps_M} (pc' : Nat) (hd : decode cc pc = .ok (.putfield 110, 3)) (hp : pc + 3 = pc') {v : Int32} (hn9 : narrow .boolean (.int v) = .int v) (hfit : fits .boolean (.int v) = true) (k : ps_G (pm_Y E) X r pc' lv st (ps_st M 0 4 v)) : ps_G (pm_Y E) X r pc lv (.int v :: .ref (ps_ad E 0) :: st) M := gm_put C pc' hd hp  4 (by decide) lk_X6_110 rfl (ty := .boolean) rfl (by decide +kernel) hn9 hfit k
theorem gf_X6_19 {E : ps_E} {ρ : Type} {X : ps_X ρ} {cc : ByteArray} {ret : Option FieldType} {f n nL : Nat} (C : ps_C (pm_Y E) X cc RX6 ret f n nL) {r : ρ} {pc : Nat} {lv : List (Nat × Value)} {st : List Value} {M : ps_M} (pc' : Nat) (hd : decode cc pc = .ok (.getfield 19, 3)) (hp : pc + 3 = pc') (k : ps_G (pm_Y E) X r pc' lv (.ref (ps_ad E 4) :: st) M) : ps_G (pm_Y E) X r pc lv (.ref (ps_ad E 0) :: st) M := gm_get C pc' hd hp  5 (by decide) lk_X6_19 rfl rfl k
theorem gf_X6_22 {E : ps_E} {ρ : Type} {X : ps_X ρ} {cc : ByteArray} {ret : Option FieldType} {f n nL : Nat} (C : ps_C (pm_Y E) X cc RX6 ret f n nL) {r : ρ} {pc : Nat} {lv : List (Nat × Value)} {st : List Value} {M : ps_M} (pc' : Nat) (hd : decode cc pc = .ok (.getfield 22, 3)) (hp : pc + 3 = pc') (k : ps_G (pm_Y E) X r pc' lv (.ref (ps_ad E 5) :: st) M) : ps_G (pm_Y E) X r pc lv (.ref (ps_ad E 0) :: st) M := gm_get C pc' hd hp  6 (by decide) lk_X6_22 rfl rfl k
theorem gf_X6_98 {E : ps_E} {ρ : Type} {X : ps_X ρ} {cc : ByteArray} {ret : Option FieldType} {f n nL : Nat} (C : ps_C (pm_Y E) X cc RX6 ret f n nL) {r : ρ} {pc : Nat} {lv : List (Nat × Value)} {st : List Value} {M : ps_M} (pc' : Nat) (hd : decode cc pc = .ok (.getfield 98, 3)) (hp : pc + 3 = pc') (k : ps_G (pm_Y E) X r pc' lv (.int (M 0 7) :: st) M) : ps_G (pm_Y E) X r pc lv (.ref (ps_ad E 0) :: st) M := gm_get C pc' hd hp  7 (by decide) lk_X6_98 rfl rfl k
theorem pf_X6_98 {E : ps_E} {ρ : Type} {X : ps_X ρ} {cc : ByteArray} {ret : Option FieldType} {f n nL : Nat} (C : ps_C (pm_Y E) X cc RX6 ret f n nL) {r : ρ} {pc : Nat} {lv : List (Nat × Value)} {st : List Value} {M : ps_M} (pc' : Nat) (hd : decode cc pc = .ok (.putfield 98, 3)) (hp : pc + 3 = pc') {v : Int32} (k : ps_G (pm_Y E) X r pc' lv st (ps_st M 0 7 v)) : ps_G (pm_Y E) X r pc lv (.int v :: .ref (ps_ad E 0) :: st) M := gm_put C pc' hd hp  7 (by decide) lk_X6_98 rfl (ty := .int) rfl (by decide +kernel) rfl rfl k
theorem gf_X6_25 {E : ps_E} {ρ : Type} {X : ps_X ρ} {cc : ByteArray} {ret : Option FieldType} {f n nL : Nat} (C : ps_C (pm_Y E) X cc RX6 ret f n nL) {r : ρ} {pc : Nat} {lv : List (Nat × Value)} {st : List Value} {M : ps_M} (pc' : Nat) (hd : decode cc pc = .ok (.getfield 25, 3)) (hp : pc + 3 = pc') (k : ps_G (pm_Y E) X r pc' lv (.ref (ps_ad E 6) :: st) M) : ps_G (pm_Y E) X r pc lv (.ref (ps_ad E 0) :: st) M := gm_get C pc' hd hp  8 (by decide) lk_X6_25 rfl rfl k
theorem gf_X6_101 {E : ps_E} {ρ : Type} {X : ps_X ρ} {cc : ByteArray} {ret : Option FieldType} {f n nL : Nat} (C : ps_C (pm_Y E) X cc RX6 ret f n nL) {r : ρ} {pc : Nat} {lv : List (Nat × Value)} {st : List Value} {M : ps_M} (pc' : Nat) (hd : decode cc pc = .ok (.getfield 101, 3)) (hp : pc + 3 = pc') (k : ps_G (pm_Y E) X r pc' lv (.int (M 0 9) :: st) M) : ps_G (pm_Y E) X r pc lv (.ref (ps_ad E 0) :: st) M := gm_get C pc' hd hp  9 (by decide) lk_X6_101 rfl rfl k
theorem pf_X6_101 {E : ps_E} {ρ : Type} {X : ps_X ρ} {cc : ByteArray} {ret : Option FieldType} {f n nL : Nat} (C : ps_C (pm_Y E) X cc RX6 ret f n nL) {r : ρ} {pc : Nat} {lv : List (Nat × Value)} {st : List Value} {M : ps_M} (pc' : Nat) (hd : decode cc pc = .ok (.putfield 101, 3)) (hp : pc + 3 = pc') {v : Int32} (k : ps_G (pm_Y E) X r pc' lv st (ps_st M 0 9 v)) : ps_G (pm_Y E) X r pc lv (.int v :: .ref (ps_ad E 0) :: st) M := gm_put C pc' hd hp  9 (by decide) lk_X6_101 rfl (ty := .int) rfl (by decide +kernel) rfl rfl k
theorem yv_X0_fault : ps_yv yX0_fault cX0_fault 5 (some .int) RX0 0 := ⟨yw_X0_fault, by decide +kernel⟩
theorem yv_X0_readNumbers : ps_yv yX0_readNumbers cX0_readNumbers 3 (some .int) RX0 0 := ⟨yw_X0_readNumbers, by decide +kernel⟩
theorem yv_X0_greatestNumber : ps_yv yX0_greatestNumber cX0_greatestNumber 4 (some .int) RX0 1 := ⟨yw_X0_greatestNumber, by decide +kernel⟩
theorem yv_X0_isDigit : ps_ys yX0_isDigit cX0_isDigit 1 (some .boolean) 1 := ⟨yw_X0_isDigit, by decide +kernel⟩
theorem yv_X1_copyFrom : ps_yv yX1_copyFrom cX1_copyFrom 2 none RX1 1 := ⟨yw_X1_copyFrom, by decide +kernel⟩
theorem yv_X1_isOnDuty : ps_yv yX1_isOnDuty cX1_isOnDuty 1 (some .boolean) RX1 0 := ⟨yw_X1_isOnDuty, by decide +kernel⟩
theorem yv_X1_rests : ps_yv yX1_rests cX1_rests 1 (some .boolean) RX1 0 := ⟨yw_X1_rests, by decide +kernel⟩
theorem yv_X1_isFree : ps_yv yX1_isFree cX1_isFree 1 (some .boolean) RX1 0 := ⟨yw_X1_isFree, by decide +kernel⟩
theorem yv_X1_mustLeave : ps_yv yX1_mustLeave cX1_mustLeave 1 (some .boolean) RX1 0 := ⟨yw_X1_mustLeave, by decide +kernel⟩
theorem yv_X1_comeTo : ps_yv yX1_comeTo cX1_comeTo 2 none RX1 1 := ⟨yw_X1_comeTo, by decide +kernel⟩
theorem yv_X1_leaveDuty : ps_yv yX1_leaveDuty cX1_leaveDuty 2 none RX1 1 := ⟨yw_X1_leaveDuty, by decide +kernel⟩
theorem yv_X1_endHour : ps_yv yX1_endHour cX1_endHour 1 none RX1 0 := ⟨yw_X1_endHour, by decide +kernel⟩
theorem yv_X2_copyFrom : ps_yv yX2_copyFrom cX2_copyFrom 3 none RX2 1 := ⟨yw_X2_copyFrom, by decide +kernel⟩
theorem yv_X2_hasStation : ps_yv yX2_hasStation cX2_hasStation 2 (some .boolean) RX2 1 := ⟨yw_X2_hasStation, by decide +kernel⟩
theorem yv_X2_hasClerk : ps_yv yX2_hasClerk cX2_hasClerk 2 (some .boolean) RX2 1 := ⟨yw_X2_hasClerk, by decide +kernel⟩
theorem yv_X2_engageClerk : ps_yv yX2_engageClerk cX2_engageClerk 3 (some .int) RX2 2 := ⟨yw_X2_engageClerk, by decide +kernel⟩
theorem yv_X2_letHoursPass : ps_yv yX2_letHoursPass cX2_letHoursPass 4 (some .int) RX2 1 := ⟨yw_X2_letHoursPass, by decide +kernel⟩
theorem yv_X2_letArrive : ps_yv yX2_letArrive cX2_letArrive 2 none RX2 0 := ⟨yw_X2_letArrive, by decide +kernel⟩
theorem yv_X2_changeClerks : ps_yv yX2_changeClerks cX2_changeClerks 4 none RX2 0 := ⟨yw_X2_changeClerks, by decide +kernel⟩
theorem yv_X2_serveQueues : ps_yv yX2_serveQueues cX2_serveQueues 3 (some .int) RX2 0 := ⟨yw_X2_serveQueues, by decide +kernel⟩
theorem yv_X2_endHourOfClerks : ps_yv yX2_endHourOfClerks cX2_endHourOfClerks 2 none RX2 0 := ⟨yw_X2_endHourOfClerks, by decide +kernel⟩
theorem yv_X2_firstFree : ps_yv yX2_firstFree cX2_firstFree 3 (some .int) RX2 0 := ⟨yw_X2_firstFree, by decide +kernel⟩
theorem yv_X2_comesBefore : ps_yv yX2_comesBefore cX2_comesBefore 4 (some .boolean) RX2 2 := ⟨yw_X2_comesBefore, by decide +kernel⟩
theorem yv_X2_placeAmongFree : ps_yv yX2_placeAmongFree cX2_placeAmongFree 4 (some .int) RX2 1 := ⟨yw_X2_placeAmongFree, by decide +kernel⟩
theorem yv_X2_placeByQueue : ps_yv yX2_placeByQueue cX2_placeByQueue 5 (some .int) RX2 1 := ⟨yw_X2_placeByQueue, by decide +kernel⟩
theorem yv_X2_clerksAt : ps_yv yX2_clerksAt cX2_clerksAt 4 (some .int) RX2 1 := ⟨yw_X2_clerksAt, by decide +kernel⟩
theorem yv_X2_servedAnHourAt : ps_yv yX2_servedAnHourAt cX2_servedAnHourAt 4 (some .int) RX2 1 := ⟨yw_X2_servedAnHourAt, by decide +kernel⟩
theorem yv_X2_hoursForQueueOf : ps_yv yX2_hoursForQueueOf cX2_hoursForQueueOf 4 (some .int) RX2 1 := ⟨yw_X2_hoursForQueueOf, by decide +kernel⟩
theorem yv_X2_clerksOnDuty : ps_yv yX2_clerksOnDuty cX2_clerksOnDuty 3 (some .int) RX2 0 := ⟨yw_X2_clerksOnDuty, by decide +kernel⟩
theorem yv_X2_freeClerks : ps_yv yX2_freeClerks cX2_freeClerks 3 (some .int) RX2 0 := ⟨yw_X2_freeClerks, by decide +kernel⟩
theorem yv_X2_hoursWorked : ps_yv yX2_hoursWorked cX2_hoursWorked 3 (some .int) RX2 0 := ⟨yw_X2_hoursWorked, by decide +kernel⟩
theorem yv_X2_stationsCounted : ps_yv yX2_stationsCounted cX2_stationsCounted 4 (some .int) RX2 1 := ⟨yw_X2_stationsCounted, by decide +kernel⟩
theorem yv_X3_remember : ps_yv yX3_remember cX3_remember 2 none RX3 1 := ⟨yw_X3_remember, by decide +kernel⟩
theorem yv_X3_dropOldest : ps_yv yX3_dropOldest cX3_dropOldest 3 none RX3 0 := ⟨yw_X3_dropOldest, by decide +kernel⟩
theorem yv_X3_takeBackInto : ps_yv yX3_takeBackInto cX3_takeBackInto 2 none RX3 1 := ⟨yw_X3_takeBackInto, by decide +kernel⟩
theorem yv_X4_copyFrom : ps_yv yX4_copyFrom cX4_copyFrom 2 none RX4 1 := ⟨yw_X4_copyFrom, by decide +kernel⟩
theorem yv_X4_becomeSumOf : ps_yv yX4_becomeSumOf cX4_becomeSumOf 4 none RX4 2 := ⟨yw_X4_becomeSumOf, by decide +kernel⟩
theorem yv_X4_serveQueue : ps_yv yX4_serveQueue cX4_serveQueue 3 (some .int) RX4 1 := ⟨yw_X4_serveQueue, by decide +kernel⟩
theorem yv_X4_allArrivals : ps_yv yX4_allArrivals cX4_allArrivals 3 (some .int) RX4 0 := ⟨yw_X4_allArrivals, by decide +kernel⟩
theorem yv_X4_isCounted : ps_yv yX4_isCounted cX4_isCounted 1 (some .boolean) RX4 0 := ⟨yw_X4_isCounted, by decide +kernel⟩
theorem yv_X4_countAgrees : ps_yv yX4_countAgrees cX4_countAgrees 1 (some .boolean) RX4 0 := ⟨yw_X4_countAgrees, by decide +kernel⟩
theorem yv_X5_addStation : ps_yv yX5_addStation cX5_addStation 1 (some .int) RX5 0 := ⟨yw_X5_addStation, by decide +kernel⟩
theorem yv_X5_addClerk : ps_yv yX5_addClerk cX5_addClerk 3 (some .int) RX5 2 := ⟨yw_X5_addClerk, by decide +kernel⟩
theorem yv_X5_setArrivals : ps_yv yX5_setArrivals cX5_setArrivals 6 (some .int) RX5 3 := ⟨yw_X5_setArrivals, by decide +kernel⟩
theorem yv_X5_assign : ps_yv yX5_assign cX5_assign 3 (some .int) RX5 2 := ⟨yw_X5_assign, by decide +kernel⟩
theorem yv_X5_relieve : ps_yv yX5_relieve cX5_relieve 3 (some .int) RX5 1 := ⟨yw_X5_relieve, by decide +kernel⟩
theorem yv_X5_pass : ps_yv yX5_pass cX5_pass 2 (some .int) RX5 1 := ⟨yw_X5_pass, by decide +kernel⟩
theorem yv_X5_supply : ps_yv yX5_supply cX5_supply 4 (some .int) RX5 2 := ⟨yw_X5_supply, by decide +kernel⟩
theorem yv_X5_movePapers : ps_yv yX5_movePapers cX5_movePapers 6 (some .int) RX5 3 := ⟨yw_X5_movePapers, by decide +kernel⟩
theorem yv_X5_spoil : ps_yv yX5_spoil cX5_spoil 4 (some .int) RX5 2 := ⟨yw_X5_spoil, by decide +kernel⟩
theorem yv_X5_carryOff : ps_yv yX5_carryOff cX5_carryOff 4 (some .int) RX5 2 := ⟨yw_X5_carryOff, by decide +kernel⟩
theorem yv_X5_find : ps_yv yX5_find cX5_find 4 (some .int) RX5 2 := ⟨yw_X5_find, by decide +kernel⟩
theorem yv_X5_countBox : ps_yv yX5_countBox cX5_countBox 4 (some .int) RX5 2 := ⟨yw_X5_countBox, by decide +kernel⟩
theorem yv_X5_type : ps_yv yX5_type cX5_type 2 (some .int) RX5 1 := ⟨yw_X5_type, by decide +kernel⟩
theorem yv_X5_clearText : ps_yv yX5_clearText cX5_clearText 2 (some .int) RX5 0 := ⟨yw_X5_clearText, by decide +kernel⟩
theorem yv_X5_readArrivals : ps_yv yX5_readArrivals cX5_readArrivals 5 (some .int) RX5 2 := ⟨yw_X5_readArrivals, by decide +kernel⟩
theorem yv_X5_undo : ps_yv yX5_undo cX5_undo 1 (some .int) RX5 0 := ⟨yw_X5_undo, by decide +kernel⟩
theorem yv_X5_keep : ps_yv yX5_keep cX5_keep 1 (some .int) RX5 0 := ⟨yw_X5_keep, by decide +kernel⟩
theorem yv_X5_restore : ps_yv yX5_restore cX5_restore 1 (some .int) RX5 0 := ⟨yw_X5_restore, by decide +kernel⟩
theorem yv_X5_station : ps_yv yX5_station cX5_station 4 (some .int) RX5 2 := ⟨yw_X5_station, by decide +kernel⟩
theorem yv_X5_papers : ps_yv yX5_papers cX5_papers 4 (some .int) RX5 2 := ⟨yw_X5_papers, by decide +kernel⟩
theorem yv_X5_clerk : ps_yv yX5_clerk cX5_clerk 4 (some .int) RX5 2 := ⟨yw_X5_clerk, by decide +kernel⟩
theorem yv_X5_arrivals : ps_yv yX5_arrivals cX5_arrivals 3 (some .int) RX5 2 := ⟨yw_X5_arrivals, by decide +kernel⟩
theorem yv_X5_free : ps_yv yX5_free cX5_free 3 (some .int) RX5 1 := ⟨yw_X5_free, by decide +kernel⟩
theorem yv_X5_busiest : ps_yv yX5_busiest cX5_busiest 3 (some .int) RX5 1 := ⟨yw_X5_busiest, by decide +kernel⟩
theorem yv_X5_queueIn : ps_yv yX5_queueIn cX5_queueIn 3 (some .int) RX5 2 := ⟨yw_X5_queueIn, by decide +kernel⟩
theorem yv_X5_lacks : ps_yv yX5_lacks cX5_lacks 4 (some .int) RX5 1 := ⟨yw_X5_lacks, by decide +kernel⟩
theorem yv_X5_count : ps_yv yX5_count cX5_count 2 (some .int) RX5 1 := ⟨yw_X5_count, by decide +kernel⟩
theorem yv_X5_total : ps_yv yX5_total cX5_total 1 (some (.object "PaperStations$Station")) RX5 0 := ⟨yw_X5_total, by decide +kernel⟩
theorem yv_X5_isHourToCome : ps_yv yX5_isHourToCome cX5_isHourToCome 2 (some .boolean) RX5 1 := ⟨yw_X5_isHourToCome, by decide +kernel⟩
theorem yv_X5_isPaperNumber : ps_ys yX5_isPaperNumber cX5_isPaperNumber 1 (some .boolean) 1 := ⟨yw_X5_isPaperNumber, by decide +kernel⟩
theorem yv_X5_isWithin : ps_ys yX5_isWithin cX5_isWithin 3 (some .boolean) 3 := ⟨yw_X5_isWithin, by decide +kernel⟩
theorem yv_X6_in : ps_ys yX6_in cX6_in 3 (some .boolean) 3 := ⟨yw_X6_in, by decide +kernel⟩
theorem yv_X6_copies : ps_ys yX6_copies cX6_copies 5 none 4 := ⟨yw_X6_copies, by decide +kernel⟩
theorem yv_X6_records : ps_yv yX6_records cX6_records 2 none RX6 0 := ⟨yw_X6_records, by decide +kernel⟩
theorem yv_X6_isStation : ps_yv yX6_isStation cX6_isStation 2 (some .boolean) RX6 1 := ⟨yw_X6_isStation, by decide +kernel⟩
theorem yv_X6_isClerk : ps_yv yX6_isClerk cX6_isClerk 2 (some .boolean) RX6 1 := ⟨yw_X6_isClerk, by decide +kernel⟩
theorem yv_X6_of : ps_yv yX6_of cX6_of 3 (some .int) RX6 2 := ⟨yw_X6_of, by decide +kernel⟩
theorem yv_X6_adds : ps_yv yX6_adds cX6_adds 4 none RX6 3 := ⟨yw_X6_adds, by decide +kernel⟩
theorem yv_X6_ofClerk : ps_yv yX6_ofClerk cX6_ofClerk 3 (some .int) RX6 2 := ⟨yw_X6_ofClerk, by decide +kernel⟩
theorem yv_X6_laysClerk : ps_yv yX6_laysClerk cX6_laysClerk 4 none RX6 3 := ⟨yw_X6_laysClerk, by decide +kernel⟩
theorem yv_X6_addStation : ps_yv yX6_addStation cX6_addStation 1 (some .int) RX6 0 := ⟨yw_X6_addStation, by decide +kernel⟩
theorem yv_X6_addClerk : ps_yv yX6_addClerk cX6_addClerk 4 (some .int) RX6 2 := ⟨yw_X6_addClerk, by decide +kernel⟩
theorem yv_X6_setArrivals : ps_yv yX6_setArrivals cX6_setArrivals 5 (some .int) RX6 3 := ⟨yw_X6_setArrivals, by decide +kernel⟩
theorem yv_X6_isFree : ps_yv yX6_isFree cX6_isFree 2 (some .boolean) RX6 1 := ⟨yw_X6_isFree, by decide +kernel⟩
theorem yv_X6_aheadOf : ps_yv yX6_aheadOf cX6_aheadOf 6 (some .int) RX6 1 := ⟨yw_X6_aheadOf, by decide +kernel⟩
theorem yv_X6_freeAt : ps_yv yX6_freeAt cX6_freeAt 3 (some .int) RX6 1 := ⟨yw_X6_freeAt, by decide +kernel⟩
theorem yv_X6_onDutyAt : ps_yv yX6_onDutyAt cX6_onDutyAt 4 (some .int) RX6 1 := ⟨yw_X6_onDutyAt, by decide +kernel⟩
theorem yv_X6_serveAt : ps_yv yX6_serveAt cX6_serveAt 4 (some .int) RX6 1 := ⟨yw_X6_serveAt, by decide +kernel⟩
theorem yv_X6_assign : ps_yv yX6_assign cX6_assign 3 (some .int) RX6 2 := ⟨yw_X6_assign, by decide +kernel⟩
theorem yv_X6_leaves : ps_yv yX6_leaves cX6_leaves 3 none RX6 2 := ⟨yw_X6_leaves, by decide +kernel⟩
theorem yv_X6_relieve : ps_yv yX6_relieve cX6_relieve 3 (some .int) RX6 1 := ⟨yw_X6_relieve, by decide +kernel⟩
theorem yv_X6_serves : ps_yv yX6_serves cX6_serves 3 (some .int) RX6 1 := ⟨yw_X6_serves, by decide +kernel⟩
theorem yv_X6_takesTurns : ps_yv yX6_takesTurns cX6_takesTurns 4 none RX6 0 := ⟨yw_X6_takesTurns, by decide +kernel⟩
theorem yv_X6_hourPasses : ps_yv yX6_hourPasses cX6_hourPasses 5 (some .int) RX6 0 := ⟨yw_X6_hourPasses, by decide +kernel⟩
theorem yv_X6_hoursPass : ps_yv yX6_hoursPass cX6_hoursPass 4 (some .int) RX6 1 := ⟨yw_X6_hoursPass, by decide +kernel⟩
theorem yv_X6_pass : ps_yv yX6_pass cX6_pass 2 (some .int) RX6 1 := ⟨yw_X6_pass, by decide +kernel⟩
theorem yv_X6_supply : ps_yv yX6_supply cX6_supply 3 (some .int) RX6 2 := ⟨yw_X6_supply, by decide +kernel⟩
theorem yv_X6_movePapers : ps_yv yX6_movePapers cX6_movePapers 4 (some .int) RX6 3 := ⟨yw_X6_movePapers, by decide +kernel⟩
theorem yv_X6_spoil : ps_yv yX6_spoil cX6_spoil 3 (some .int) RX6 2 := ⟨yw_X6_spoil, by decide +kernel⟩
theorem yv_X6_carryOff : ps_yv yX6_carryOff cX6_carryOff 3 (some .int) RX6 2 := ⟨yw_X6_carryOff, by decide +kernel⟩
theorem yv_X6_find : ps_yv yX6_find cX6_find 3 (some .int) RX6 2 := ⟨yw_X6_find, by decide +kernel⟩
theorem yv_X6_countBox : ps_yv yX6_countBox cX6_countBox 3 (some .int) RX6 2 := ⟨yw_X6_countBox, by decide +kernel⟩
theorem yv_X6_type : ps_yv yX6_type cX6_type 2 (some .int) RX6 1 := ⟨yw_X6_type, by decide +kernel⟩
theorem yv_X6_clearText : ps_yv yX6_clearText cX6_clearText 2 (some .int) RX6 0 := ⟨yw_X6_clearText, by decide +kernel⟩
theorem yv_X6_signAt : ps_yv yX6_signAt cX6_signAt 2 (some .int) RX6 1 := ⟨yw_X6_signAt, by decide +kernel⟩
theorem yv_X6_faultOf : ps_yv yX6_faultOf cX6_faultOf 5 (some .int) RX6 0 := ⟨yw_X6_faultOf, by decide +kernel⟩
theorem yv_X6_readArrivals : ps_yv yX6_readArrivals cX6_readArrivals 5 (some .int) RX6 2 := ⟨yw_X6_readArrivals, by decide +kernel⟩
theorem yv_X6_undo : ps_yv yX6_undo cX6_undo 1 (some .int) RX6 0 := ⟨yw_X6_undo, by decide +kernel⟩
theorem yv_X6_keep : ps_yv yX6_keep cX6_keep 1 (some .int) RX6 0 := ⟨yw_X6_keep, by decide +kernel⟩
theorem yv_X6_restore : ps_yv yX6_restore cX6_restore 1 (some .int) RX6 0 := ⟨yw_X6_restore, by decide +kernel⟩
theorem yv_X6_toServe : ps_yv yX6_toServe cX6_toServe 4 (some .int) RX6 1 := ⟨yw_X6_toServe, by decide +kernel⟩
theorem yv_X6_arrivalsAll : ps_yv yX6_arrivalsAll cX6_arrivalsAll 4 (some .int) RX6 1 := ⟨yw_X6_arrivalsAll, by decide +kernel⟩
theorem yv_X6_station : ps_yv yX6_station cX6_station 3 (some .int) RX6 2 := ⟨yw_X6_station, by decide +kernel⟩
theorem yv_X6_papers : ps_yv yX6_papers cX6_papers 4 (some .int) RX6 2 := ⟨yw_X6_papers, by decide +kernel⟩
theorem yv_X6_clerk : ps_yv yX6_clerk cX6_clerk 3 (some .int) RX6 2 := ⟨yw_X6_clerk, by decide +kernel⟩
theorem yv_X6_arrivals : ps_yv yX6_arrivals cX6_arrivals 3 (some .int) RX6 2 := ⟨yw_X6_arrivals, by decide +kernel⟩
theorem yv_X6_free : ps_yv yX6_free cX6_free 2 (some .int) RX6 1 := ⟨yw_X6_free, by decide +kernel⟩
theorem yv_X6_busiest : ps_yv yX6_busiest cX6_busiest 5 (some .int) RX6 1 := ⟨yw_X6_busiest, by decide +kernel⟩
theorem yv_X6_queueIn : ps_yv yX6_queueIn cX6_queueIn 5 (some .int) RX6 2 := ⟨yw_X6_queueIn, by decide +kernel⟩
theorem yv_X6_lacks : ps_yv yX6_lacks cX6_lacks 6 (some .int) RX6 1 := ⟨yw_X6_lacks, by decide +kernel⟩
theorem yv_X6_overStations : ps_yv yX6_overStations cX6_overStations 4 (some .int) RX6 1 := ⟨yw_X6_overStations, by decide +kernel⟩
theorem yv_X6_countedAs : ps_yv yX6_countedAs cX6_countedAs 4 (some .int) RX6 1 := ⟨yw_X6_countedAs, by decide +kernel⟩
theorem yv_X6_overClerks : ps_yv yX6_overClerks cX6_overClerks 5 (some .int) RX6 1 := ⟨yw_X6_overClerks, by decide +kernel⟩
theorem yv_X6_count : ps_yv yX6_count cX6_count 2 (some .int) RX6 1 := ⟨yw_X6_count, by decide +kernel⟩
end
section
def fv_X1_copyFrom_24 (k0 : Nat) (k1 : Nat) (M : ps_M) : ps_M := (ps_st (ps_st (ps_st M k0 3 (M k1 3)) k0 4 ((ps_st M k0 3 (M k1 3)) k1 4)) k0 5 ((ps_st (ps_st M k0 3 (M k1 3)) k0 4 ((ps_st M k0 3 (M k1 3)) k1 4)) k1 5))
def ok_X1_copyFrom_24 (k0 : Nat) (k1 : Nat) (M : ps_M) : Prop := True
set_option maxRecDepth 100000 in
set_option maxHeartbeats 4000000 in
theorem bw_X1_copyFrom_24 {E : ps_E} {X : ps_X ps_M} (C : ps_C (ps_Yc E) X cX1_copyFrom RX1 none 0 0 2) (RT : ps_RV (ps_Yc E) X cX1_copyFrom) (k0 : Nat) (k1 : Nat) (hk0 : ps_kd k0 = 7) (hk1 : ps_kd k1 = 7) (M : ps_M) (hk : ok_X1_copyFrom_24 k0 k1 M) : ps_G (ps_Yc E) X (fv_X1_copyFrom_24 k0 k1 M) 24 [(0, .ref (ps_ad E k0)), (1, .ref (ps_ad E k1))] [] M := by
  unfold fv_X1_copyFrom_24
  unfold ok_X1_copyFrom_24 at hk
  refine gw_aload_n C 25 dX1_copyFrom_24 0 rfl rfl ?_
  refine gw_aload_n C 26 dX1_copyFrom_25 1 rfl rfl ?_
  refine gf_X1_21 C 29 dX1_copyFrom_26 rfl hk1 ?_
  refine pf_X1_21 C 32 dX1_copyFrom_29 rfl hk0 ?_
  refine gw_aload_n C 33 dX1_copyFrom_32 0 rfl rfl ?_
  refine gw_aload_n C 34 dX1_copyFrom_33 1 rfl rfl ?_
  refine gf_X1_24 C 37 dX1_copyFrom_34 rfl hk1 ?_
  refine pf_X1_24 C 40 dX1_copyFrom_37 rfl hk0 ?_
  refine gw_aload_n C 41 dX1_copyFrom_40 0 rfl rfl ?_
  refine gw_aload_n C 42 dX1_copyFrom_41 1 rfl rfl ?_
  refine gf_X1_27 C 45 dX1_copyFrom_42 rfl hk1 ?_
  refine pf_X1_27 C 48 dX1_copyFrom_45 rfl hk0 ?_
  exact RT _ _ _ dX1_copyFrom_48
def fv_X1_copyFrom (k0 : Nat) (k1 : Nat) (M : ps_M) : ps_M := fv_X1_copyFrom_24 k0 k1 (ps_st (ps_st (ps_st M k0 0 (M k1 0)) k0 1 ((ps_st M k0 0 (M k1 0)) k1 1)) k0 2 ((ps_st (ps_st M k0 0 (M k1 0)) k0 1 ((ps_st M k0 0 (M k1 0)) k1 1)) k1 2))
def ok_X1_copyFrom (k0 : Nat) (k1 : Nat) (M : ps_M) : Prop := ok_X1_copyFrom_24 k0 k1 (ps_st (ps_st (ps_st M k0 0 (M k1 0)) k0 1 ((ps_st M k0 0 (M k1 0)) k1 1)) k0 2 ((ps_st (ps_st M k0 0 (M k1 0)) k0 1 ((ps_st M k0 0 (M k1 0)) k1 1)) k1 2))
set_option maxRecDepth 100000 in
set_option maxHeartbeats 4000000 in
theorem bw_X1_copyFrom {E : ps_E} {X : ps_X ps_M} (C : ps_C (ps_Yc E) X cX1_copyFrom RX1 none 0 0 2) (RT : ps_RV (ps_Yc E) X cX1_copyFrom) (k0 : Nat) (k1 : Nat) (hk0 : ps_kd k0 = 7) (hk1 : ps_kd k1 = 7) (M : ps_M) (hk : ok_X1_copyFrom k0 k1 M) : ps_G (ps_Yc E) X (fv_X1_copyFrom k0 k1 M) 0 [(0, .ref (ps_ad E k0)), (1, .ref (ps_ad E k1))] [] M := by
  unfold fv_X1_copyFrom
  unfold ok_X1_copyFrom at hk
  refine gw_aload_n C 1 dX1_copyFrom_0 0 rfl rfl ?_
  refine gw_aload_n C 2 dX1_copyFrom_1 1 rfl rfl ?_
  refine gf_X1_15 C 5 dX1_copyFrom_2 rfl hk1 ?_
  refine pf_X1_15 C 8 dX1_copyFrom_5 rfl hk0 ?_
  refine gw_aload_n C 9 dX1_copyFrom_8 0 rfl rfl ?_
  refine gw_aload_n C 10 dX1_copyFrom_9 1 rfl rfl ?_
  refine gf_X1_18 C 13 dX1_copyFrom_10 rfl hk1 ?_
  refine pf_X1_18 C 16 dX1_copyFrom_13 rfl hk0 ?_
  refine gw_aload_n C 17 dX1_copyFrom_16 0 rfl rfl ?_
  refine gw_aload_n C 18 dX1_copyFrom_17 1 rfl rfl ?_
  refine gf_X1_9 C 21 dX1_copyFrom_18 rfl hk1 ?_
  refine pf_X1_9 C 24 dX1_copyFrom_21 rfl hk0 ?_
  exact bw_X1_copyFrom_24 C RT  k0 k1 hk0 hk1 (ps_st (ps_st (ps_st M k0 0 (M k1 0)) k0 1 ((ps_st M k0 0 (M k1 0)) k1 1)) k0 2 ((ps_st (ps_st M k0 0 (M k1 0)) k0 1 ((ps_st M k0 0 (M k1 0)) k1 1)) k1 2)) hk
theorem ct_X1_copyFrom {E : ps_E} {l : Launch} (k0 : Nat) (k1 : Nat) (hk0 : ps_kd k0 = 7) (hk1 : ps_kd k1 = 7) (M : ps_M) (hk : ok_X1_copyFrom k0 k1 M) : ps_CV (ps_Yc E) l yX1_copyFrom cX1_copyFrom 2 0 0 [.ref (ps_ad E k0), .ref (ps_ad E k1)] M (fv_X1_copyFrom k0 k1 M) := ps_metV RX1 (by decide) rfl (Nat.le_of_ble_eq_true rfl) rfl (fun X _ C RT => bw_X1_copyFrom C RT k0 k1 hk0 hk1 M hk)
def fv_X1_isOnDuty (k0 : Nat) (M : ps_M) : Int32 := if (M k0 2) = (-5 : Int32) then ((0 : Int32)) else ((1 : Int32))
def ok_X1_isOnDuty (k0 : Nat) (M : ps_M) : Prop := True
set_option maxRecDepth 100000 in
set_option maxHeartbeats 4000000 in
theorem bw_X1_isOnDuty {E : ps_E} {X : ps_X (Int32 × ps_M)} (C : ps_C (ps_Yc E) X cX1_isOnDuty RX1 (some .boolean) 0 0 1) (RT : ps_RI (ps_Yc E) X cX1_isOnDuty .boolean) (M : ps_M) (k0 : Nat) (hk0 : ps_kd k0 = 7) (hk : ok_X1_isOnDuty k0 M) : ps_G (ps_Yc E) X (fv_X1_isOnDuty k0 M, M) 0 [(0, .ref (ps_ad E k0))] [] M := by
  unfold fv_X1_isOnDuty
  unfold ok_X1_isOnDuty at hk
  refine gw_aload_n C 1 dX1_isOnDuty_0 0 rfl rfl ?_
  refine gf_X1_9 C 4 dX1_isOnDuty_1 rfl hk0 ?_
  refine gw_bipush C 6 dX1_isOnDuty_4 (v := (-5)) (by decide) rfl ?_
  refine gw_ic_eqP C 13 9 dX1_isOnDuty_6 (by decide) rfl (fun c6 => ?_) (fun c6 => ?_)
  · refine gw_iconst C 14 dX1_isOnDuty_13 (v := 0) (by decide) rfl ?_
    exact RT _ _ _ _ dX1_isOnDuty_14 ps_nb0
  · refine gw_iconst C 10 dX1_isOnDuty_9 (v := 1) (by decide) rfl ?_
    refine gw_goto C 14 dX1_isOnDuty_10 (by decide) ?_
    exact RT _ _ _ _ dX1_isOnDuty_14 ps_nb1
theorem ct_X1_isOnDuty {E : ps_E} {l : Launch} (k0 : Nat) (hk0 : ps_kd k0 = 7) (M : ps_M) (hk : ok_X1_isOnDuty k0 M) : ps_CI (ps_Yc E) l yX1_isOnDuty cX1_isOnDuty 1 (some .boolean) 0 0 [.ref (ps_ad E k0)] M (fv_X1_isOnDuty k0 M, M) := ps_metI RX1 (by decide) rfl (Nat.le_of_ble_eq_true rfl) rfl (fun X _ C RT => bw_X1_isOnDuty C RT M k0 hk0 hk)
def fv_X1_rests (k0 : Nat) (M : ps_M) : Int32 := if (M k0 5) ≤ 0 then ((0 : Int32)) else ((1 : Int32))
def ok_X1_rests (k0 : Nat) (M : ps_M) : Prop := True
set_option maxRecDepth 100000 in
set_option maxHeartbeats 4000000 in
theorem bw_X1_rests {E : ps_E} {X : ps_X (Int32 × ps_M)} (C : ps_C (ps_Yc E) X cX1_rests RX1 (some .boolean) 0 0 1) (RT : ps_RI (ps_Yc E) X cX1_rests .boolean) (M : ps_M) (k0 : Nat) (hk0 : ps_kd k0 = 7) (hk : ok_X1_rests k0 M) : ps_G (ps_Yc E) X (fv_X1_rests k0 M, M) 0 [(0, .ref (ps_ad E k0))] [] M := by
  unfold fv_X1_rests
  unfold ok_X1_rests at hk
  refine gw_aload_n C 1 dX1_rests_0 0 rfl rfl ?_
  refine gf_X1_27 C 4 dX1_rests_1 rfl hk0 ?_
  refine gw_if_leP C 11 7 dX1_rests_4 (by decide) rfl (fun c4 => ?_) (fun c4 => ?_)
  · refine gw_iconst C 12 dX1_rests_11 (v := 0) (by decide) rfl ?_
    exact RT _ _ _ _ dX1_rests_12 ps_nb0
  · refine gw_iconst C 8 dX1_rests_7 (v := 1) (by decide) rfl ?_
    refine gw_goto C 12 dX1_rests_8 (by decide) ?_
    exact RT _ _ _ _ dX1_rests_12 ps_nb1
theorem ct_X1_rests {E : ps_E} {l : Launch} (k0 : Nat) (hk0 : ps_kd k0 = 7) (M : ps_M) (hk : ok_X1_rests k0 M) : ps_CI (ps_Yc E) l yX1_rests cX1_rests 1 (some .boolean) 0 0 [.ref (ps_ad E k0)] M (fv_X1_rests k0 M, M) := ps_metI RX1 (by decide) rfl (Nat.le_of_ble_eq_true rfl) rfl (fun X _ C RT => bw_X1_rests C RT M k0 hk0 hk)
def fv_X1_isFree (k0 : Nat) (M : ps_M) : Int32 := if (fv_X1_isOnDuty k0 M) = 0 then (if (fv_X1_rests k0 M) = 0 then ((1 : Int32)) else ((0 : Int32))) else ((0 : Int32))
def ok_X1_isFree (k0 : Nat) (M : ps_M) : Prop := (ok_X1_isOnDuty k0 M) ∧ (((fv_X1_isOnDuty k0 M) = 0 → ((ok_X1_rests k0 M) ∧ True)) ∧ (¬ ((fv_X1_isOnDuty k0 M) = 0) → True))
set_option maxRecDepth 100000 in
set_option maxHeartbeats 4000000 in
theorem bw_X1_isFree {E : ps_E} {X : ps_X (Int32 × ps_M)} (C : ps_C (ps_Yc E) X cX1_isFree RX1 (some .boolean) 1 20 1) (RT : ps_RI (ps_Yc E) X cX1_isFree .boolean) (M : ps_M) (k0 : Nat) (hk0 : ps_kd k0 = 7) (hk : ok_X1_isFree k0 M) : ps_G (ps_Yc E) X (fv_X1_isFree k0 M, M) 0 [(0, .ref (ps_ad E k0))] [] M := by
  unfold fv_X1_isFree
  unfold ok_X1_isFree at hk
  refine gw_aload_n C 1 dX1_isFree_0 0 rfl rfl ?_
  refine gw_cVp C 4 dX1_isFree_1 rfl yv_X1_isOnDuty lk_X1_30 [] [] rfl (ct_X1_isOnDuty (E := E) (l := ps_l X) k0 hk0 M hk.1) (rc_K hk0) rfl (Nat.le_of_ble_eq_true rfl) (Nat.le_of_ble_eq_true rfl) (Nat.le_of_ble_eq_true rfl) ?_
  refine gw_if_neP C 18 7 dX1_isFree_4 (by decide) rfl (fun c4 => ?_) (fun c4 => ?_)
  · refine gw_aload_n C 8 dX1_isFree_7 0 rfl rfl ?_
    refine gw_cVp C 11 dX1_isFree_8 rfl yv_X1_rests lk_X1_34 [] [] rfl (ct_X1_rests (E := E) (l := ps_l X) k0 hk0 M (hk.2.1 c4).1) (rc_K hk0) rfl (Nat.le_of_ble_eq_true rfl) (Nat.le_of_ble_eq_true rfl) (Nat.le_of_ble_eq_true rfl) ?_
    refine gw_if_neP C 18 14 dX1_isFree_11 (by decide) rfl (fun c11 => ?_) (fun c11 => ?_)
    · refine gw_iconst C 15 dX1_isFree_14 (v := 1) (by decide) rfl ?_
      refine gw_goto C 19 dX1_isFree_15 (by decide) ?_
      exact RT _ _ _ _ dX1_isFree_19 ps_nb1
    · refine gw_iconst C 19 dX1_isFree_18 (v := 0) (by decide) rfl ?_
      exact RT _ _ _ _ dX1_isFree_19 ps_nb0
  · refine gw_iconst C 19 dX1_isFree_18 (v := 0) (by decide) rfl ?_
    exact RT _ _ _ _ dX1_isFree_19 ps_nb0
theorem ct_X1_isFree {E : ps_E} {l : Launch} (k0 : Nat) (hk0 : ps_kd k0 = 7) (M : ps_M) (hk : ok_X1_isFree k0 M) : ps_CI (ps_Yc E) l yX1_isFree cX1_isFree 1 (some .boolean) 1 20 [.ref (ps_ad E k0)] M (fv_X1_isFree k0 M, M) := ps_metI RX1 (by decide) rfl (Nat.le_of_ble_eq_true rfl) rfl (fun X _ C RT => bw_X1_isFree C RT M k0 hk0 hk)
def fv_X1_comeTo (k0 : Nat) (x1 : Int32) (M : ps_M) : ps_M := (ps_st M k0 2 x1)
def ok_X1_comeTo (k0 : Nat) (x1 : Int32) (M : ps_M) : Prop := True
set_option maxRecDepth 100000 in
set_option maxHeartbeats 4000000 in
theorem bw_X1_comeTo {E : ps_E} {X : ps_X ps_M} (C : ps_C (ps_Yc E) X cX1_comeTo RX1 none 0 0 2) (RT : ps_RV (ps_Yc E) X cX1_comeTo) (k0 : Nat) (x1 : Int32) (hk0 : ps_kd k0 = 7) (M : ps_M) (hk : ok_X1_comeTo k0 x1 M) : ps_G (ps_Yc E) X (fv_X1_comeTo k0 x1 M) 0 [(0, .ref (ps_ad E k0)), (1, .int x1)] [] M := by
  unfold fv_X1_comeTo
  unfold ok_X1_comeTo at hk
  refine gw_aload_n C 1 dX1_comeTo_0 0 rfl rfl ?_
  refine gw_iload_n C 2 dX1_comeTo_1 1 rfl rfl ?_
  refine pf_X1_9 C 5 dX1_comeTo_2 rfl hk0 ?_
  exact RT _ _ _ dX1_comeTo_5
theorem ct_X1_comeTo {E : ps_E} {l : Launch} (k0 : Nat) (x1 : Int32) (hk0 : ps_kd k0 = 7) (M : ps_M) (hk : ok_X1_comeTo k0 x1 M) : ps_CV (ps_Yc E) l yX1_comeTo cX1_comeTo 2 0 0 [.ref (ps_ad E k0), .int x1] M (fv_X1_comeTo k0 x1 M) := ps_metV RX1 (by decide) rfl (Nat.le_of_ble_eq_true rfl) rfl (fun X _ C RT => bw_X1_comeTo C RT k0 x1 hk0 M hk)
def fv_X1_leaveDuty (k0 : Nat) (x1 : Int32) (M : ps_M) : ps_M := (ps_st (ps_st (ps_st M k0 2 (-5 : Int32)) k0 3 (0 : Int32)) k0 5 x1)
def ok_X1_leaveDuty (k0 : Nat) (x1 : Int32) (M : ps_M) : Prop := True
set_option maxRecDepth 100000 in
set_option maxHeartbeats 4000000 in
theorem bw_X1_leaveDuty {E : ps_E} {X : ps_X ps_M} (C : ps_C (ps_Yc E) X cX1_leaveDuty RX1 none 0 0 2) (RT : ps_RV (ps_Yc E) X cX1_leaveDuty) (k0 : Nat) (x1 : Int32) (hk0 : ps_kd k0 = 7) (M : ps_M) (hk : ok_X1_leaveDuty k0 x1 M) : ps_G (ps_Yc E) X (fv_X1_leaveDuty k0 x1 M) 0 [(0, .ref (ps_ad E k0)), (1, .int x1)] [] M := by
  unfold fv_X1_leaveDuty
  unfold ok_X1_leaveDuty at hk
  refine gw_aload_n C 1 dX1_leaveDuty_0 0 rfl rfl ?_
  refine gw_bipush C 3 dX1_leaveDuty_1 (v := (-5)) (by decide) rfl ?_
  refine pf_X1_9 C 6 dX1_leaveDuty_3 rfl hk0 ?_
  refine gw_aload_n C 7 dX1_leaveDuty_6 0 rfl rfl ?_
  refine gw_iconst C 8 dX1_leaveDuty_7 (v := 0) (by decide) rfl ?_
  refine pf_X1_21 C 11 dX1_leaveDuty_8 rfl hk0 ?_
  refine gw_aload_n C 12 dX1_leaveDuty_11 0 rfl rfl ?_
  refine gw_iload_n C 13 dX1_leaveDuty_12 1 rfl rfl ?_
  refine pf_X1_27 C 16 dX1_leaveDuty_13 rfl hk0 ?_
  exact RT _ _ _ dX1_leaveDuty_16
theorem ct_X1_leaveDuty {E : ps_E} {l : Launch} (k0 : Nat) (x1 : Int32) (hk0 : ps_kd k0 = 7) (M : ps_M) (hk : ok_X1_leaveDuty k0 x1 M) : ps_CV (ps_Yc E) l yX1_leaveDuty cX1_leaveDuty 2 0 0 [.ref (ps_ad E k0), .int x1] M (fv_X1_leaveDuty k0 x1 M) := ps_metV RX1 (by decide) rfl (Nat.le_of_ble_eq_true rfl) rfl (fun X _ C RT => bw_X1_leaveDuty C RT k0 x1 hk0 M hk)
def fv_X1_mustLeave (k0 : Nat) (M : ps_M) : Int32 := if (fv_X1_isOnDuty k0 M) = 0 then ((0 : Int32)) else (if (M k0 3) < (M k0 1) then ((0 : Int32)) else ((1 : Int32)))
def ok_X1_mustLeave (k0 : Nat) (M : ps_M) : Prop := (ok_X1_isOnDuty k0 M) ∧ True
set_option maxRecDepth 100000 in
set_option maxHeartbeats 4000000 in
theorem bw_X1_mustLeave {E : ps_E} {X : ps_X (Int32 × ps_M)} (C : ps_C (ps_Yc E) X cX1_mustLeave RX1 (some .boolean) 1 20 1) (RT : ps_RI (ps_Yc E) X cX1_mustLeave .boolean) (M : ps_M) (k0 : Nat) (hk0 : ps_kd k0 = 7) (hk : ok_X1_mustLeave k0 M) : ps_G (ps_Yc E) X (fv_X1_mustLeave k0 M, M) 0 [(0, .ref (ps_ad E k0))] [] M := by
  unfold fv_X1_mustLeave
  unfold ok_X1_mustLeave at hk
  refine gw_aload_n C 1 dX1_mustLeave_0 0 rfl rfl ?_
  refine gw_cVp C 4 dX1_mustLeave_1 rfl yv_X1_isOnDuty lk_X1_30 [] [] rfl (ct_X1_isOnDuty (E := E) (l := ps_l X) k0 hk0 M hk.1) (rc_K hk0) rfl (Nat.le_of_ble_eq_true rfl) (Nat.le_of_ble_eq_true rfl) (Nat.le_of_ble_eq_true rfl) ?_
  refine gw_if_eqP C 22 7 dX1_mustLeave_4 (by decide) rfl (fun c4 => ?_) (fun c4 => ?_)
  · refine gw_iconst C 23 dX1_mustLeave_22 (v := 0) (by decide) rfl ?_
    exact RT _ _ _ _ dX1_mustLeave_23 ps_nb0
  · refine gw_aload_n C 8 dX1_mustLeave_7 0 rfl rfl ?_
    refine gf_X1_21 C 11 dX1_mustLeave_8 rfl hk0 ?_
    refine gw_aload_n C 12 dX1_mustLeave_11 0 rfl rfl ?_
    refine gf_X1_18 C 15 dX1_mustLeave_12 rfl hk0 ?_
    refine gw_ic_ltP C 22 18 dX1_mustLeave_15 (by decide) rfl (fun c15 => ?_) (fun c15 => ?_)
    · refine gw_iconst C 23 dX1_mustLeave_22 (v := 0) (by decide) rfl ?_
      exact RT _ _ _ _ dX1_mustLeave_23 ps_nb0
    · refine gw_iconst C 19 dX1_mustLeave_18 (v := 1) (by decide) rfl ?_
      refine gw_goto C 23 dX1_mustLeave_19 (by decide) ?_
      exact RT _ _ _ _ dX1_mustLeave_23 ps_nb1
theorem ct_X1_mustLeave {E : ps_E} {l : Launch} (k0 : Nat) (hk0 : ps_kd k0 = 7) (M : ps_M) (hk : ok_X1_mustLeave k0 M) : ps_CI (ps_Yc E) l yX1_mustLeave cX1_mustLeave 1 (some .boolean) 1 20 [.ref (ps_ad E k0)] M (fv_X1_mustLeave k0 M, M) := ps_metI RX1 (by decide) rfl (Nat.le_of_ble_eq_true rfl) rfl (fun X _ C RT => bw_X1_mustLeave C RT M k0 hk0 hk)
def fv_X1_endHour_27 (k0 : Nat) (M : ps_M) : ps_M := if (fv_X1_rests k0 M) = 0 then M else ((ps_st M k0 5 ((M k0 5) - (1 : Int32))))
def ok_X1_endHour_27 (k0 : Nat) (M : ps_M) : Prop := (ok_X1_rests k0 M) ∧ True
set_option maxRecDepth 100000 in
set_option maxHeartbeats 4000000 in
theorem bw_X1_endHour_27 {E : ps_E} {X : ps_X ps_M} (C : ps_C (ps_Yc E) X cX1_endHour RX1 none 1 20 1) (RT : ps_RV (ps_Yc E) X cX1_endHour) (k0 : Nat) (hk0 : ps_kd k0 = 7) (M : ps_M) (hk : ok_X1_endHour_27 k0 M) : ps_G (ps_Yc E) X (fv_X1_endHour_27 k0 M) 27 [(0, .ref (ps_ad E k0))] [] M := by
  unfold fv_X1_endHour_27
  unfold ok_X1_endHour_27 at hk
  refine gw_aload_n C 28 dX1_endHour_27 0 rfl rfl ?_
  refine gw_cVp C 31 dX1_endHour_28 rfl yv_X1_rests lk_X1_34 [] [] rfl (ct_X1_rests (E := E) (l := ps_l X) k0 hk0 M hk.1) (rc_K hk0) rfl (Nat.le_of_ble_eq_true rfl) (Nat.le_of_ble_eq_true rfl) (Nat.le_of_ble_eq_true rfl) ?_
  refine gw_if_eq C 44 34 dX1_endHour_31 (by decide) rfl (fun c31 => ?_) (fun c31 => ?_)
  · exact RT _ _ _ dX1_endHour_44
  · refine gw_aload_n C 35 dX1_endHour_34 0 rfl rfl ?_
    refine gw_dup C 36 dX1_endHour_35 rfl rfl ?_
    refine gf_X1_27 C 39 dX1_endHour_36 rfl hk0 ?_
    refine gw_iconst C 40 dX1_endHour_39 (v := 1) (by decide) rfl ?_
    refine gw_isub C 41 dX1_endHour_40 rfl ?_
    refine pf_X1_27 C 44 dX1_endHour_41 rfl hk0 ?_
    exact RT _ _ _ dX1_endHour_44
def fv_X1_endHour (k0 : Nat) (M : ps_M) : ps_M := if (fv_X1_isOnDuty k0 M) = 0 then (fv_X1_endHour_27 k0 M) else (fv_X1_endHour_27 k0 (ps_st (ps_st M k0 4 ((M k0 4) + (1 : Int32))) k0 3 (((ps_st M k0 4 ((M k0 4) + (1 : Int32))) k0 3) + (1 : Int32))))
def ok_X1_endHour (k0 : Nat) (M : ps_M) : Prop := (ok_X1_isOnDuty k0 M) ∧ (((fv_X1_isOnDuty k0 M) = 0 → (ok_X1_endHour_27 k0 M)) ∧ (¬ ((fv_X1_isOnDuty k0 M) = 0) → (ok_X1_endHour_27 k0 (ps_st (ps_st M k0 4 ((M k0 4) + (1 : Int32))) k0 3 (((ps_st M k0 4 ((M k0 4) + (1 : Int32))) k0 3) + (1 : Int32))))))
set_option maxRecDepth 100000 in
set_option maxHeartbeats 4000000 in
theorem bw_X1_endHour {E : ps_E} {X : ps_X ps_M} (C : ps_C (ps_Yc E) X cX1_endHour RX1 none 1 20 1) (RT : ps_RV (ps_Yc E) X cX1_endHour) (k0 : Nat) (hk0 : ps_kd k0 = 7) (M : ps_M) (hk : ok_X1_endHour k0 M) : ps_G (ps_Yc E) X (fv_X1_endHour k0 M) 0 [(0, .ref (ps_ad E k0))] [] M := by
  unfold fv_X1_endHour
  unfold ok_X1_endHour at hk
  refine gw_aload_n C 1 dX1_endHour_0 0 rfl rfl ?_
  refine gw_cVp C 4 dX1_endHour_1 rfl yv_X1_isOnDuty lk_X1_30 [] [] rfl (ct_X1_isOnDuty (E := E) (l := ps_l X) k0 hk0 M hk.1) (rc_K hk0) rfl (Nat.le_of_ble_eq_true rfl) (Nat.le_of_ble_eq_true rfl) (Nat.le_of_ble_eq_true rfl) ?_
  refine gw_if_eq C 27 7 dX1_endHour_4 (by decide) rfl (fun c4 => ?_) (fun c4 => ?_)
  · exact bw_X1_endHour_27 C RT  k0 hk0 M (hk.2.1 c4)
  · refine gw_aload_n C 8 dX1_endHour_7 0 rfl rfl ?_
    refine gw_dup C 9 dX1_endHour_8 rfl rfl ?_
    refine gf_X1_24 C 12 dX1_endHour_9 rfl hk0 ?_
    refine gw_iconst C 13 dX1_endHour_12 (v := 1) (by decide) rfl ?_
    refine gw_iadd C 14 dX1_endHour_13 rfl ?_
    refine pf_X1_24 C 17 dX1_endHour_14 rfl hk0 ?_
    refine gw_aload_n C 18 dX1_endHour_17 0 rfl rfl ?_
    refine gw_dup C 19 dX1_endHour_18 rfl rfl ?_
    refine gf_X1_21 C 22 dX1_endHour_19 rfl hk0 ?_
    refine gw_iconst C 23 dX1_endHour_22 (v := 1) (by decide) rfl ?_
    refine gw_iadd C 24 dX1_endHour_23 rfl ?_
    refine pf_X1_21 C 27 dX1_endHour_24 rfl hk0 ?_
    exact bw_X1_endHour_27 C RT  k0 hk0 (ps_st (ps_st M k0 4 ((M k0 4) + (1 : Int32))) k0 3 (((ps_st M k0 4 ((M k0 4) + (1 : Int32))) k0 3) + (1 : Int32))) (hk.2.2 c4)
theorem ct_X1_endHour {E : ps_E} {l : Launch} (k0 : Nat) (hk0 : ps_kd k0 = 7) (M : ps_M) (hk : ok_X1_endHour k0 M) : ps_CV (ps_Yc E) l yX1_endHour cX1_endHour 1 1 20 [.ref (ps_ad E k0)] M (fv_X1_endHour k0 M) := ps_metV RX1 (by decide) rfl (Nat.le_of_ble_eq_true rfl) rfl (fun X _ C RT => bw_X1_endHour C RT k0 hk0 M hk)
end
